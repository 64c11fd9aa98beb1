/-! A small machine over a picture of the memory: cells by numbers, ints and longs by places; an operation is a function of what comes behind it. -/
abbrev ZM : Type := (Nat → Nat → Int32) × (Nat → Nat → Int64)
abbrev ZL : Type := List (Option Value)
abbrev ZR : Type := Option Value × ZM
abbrev ZO : Type := ZR ⊕ (Nat × ZL × List Value × ZM)
abbrev ZK : Type := Nat → ZL → List Value → ZM → Option ZO
abbrev ZE : Type := (Nat → List Value → ZM → Option (Int32 × ZM)) × (Nat → List Value → ZM → Option (Int64 × ZM)) × (Nat → List Value → ZM → Option ZM)
abbrev ZP : Type := ZE → ZK → ZL → List Value → ZM → Option ZO
abbrev ZY : Type := (Nat × Nat) ⊕ ((Nat × List Nat) ⊕ (Nat × List (Option Nat)))
/-- the cells: arrays (0 ints, 1 longs, 2 booleans) with their lengths; arrays of cells; objects, whose fields are numbers or cells -/
def zLay : List ZY := [
.inr (.inr (7, [some 1, some 18, some 20, some 27, some 34, some 49, some 53, some 61, some 63, none])),
  .inr (.inl (3, [2, 3, 4, 5, 6, 7, 8, 9])),
  .inr (.inr (4, [some 10, none, none, none])),
  .inr (.inr (4, [some 11, none, none, none])),
  .inr (.inr (4, [some 12, none, none, none])),
  .inr (.inr (4, [some 13, none, none, none])),
  .inr (.inr (4, [some 14, none, none, none])),
  .inr (.inr (4, [some 15, none, none, none])),
  .inr (.inr (4, [some 16, none, none, none])),
  .inr (.inr (4, [some 17, none, none, none])),
  .inl (0, 40),
  .inl (0, 40),
  .inl (0, 40),
  .inl (0, 40),
  .inl (0, 40),
  .inl (0, 40),
  .inl (0, 40),
  .inl (0, 40),
  .inr (.inr (3, [some 19, none, none, none, none, none, none])),
  .inl (0, 120),
  .inr (.inr (5, [none, none, none, none, none, none, none, none, some 21, some 22, some 23, some 24, some 25, some 26])),
  .inl (0, 10),
  .inl (0, 10),
  .inl (0, 10),
  .inl (0, 5),
  .inl (0, 5),
  .inl (0, 5),
  .inr (.inr (5, [none, none, none, none, none, none, none, none, some 28, some 29, some 30, some 31, some 32, some 33])),
  .inl (0, 10),
  .inl (0, 10),
  .inl (0, 10),
  .inl (0, 5),
  .inl (0, 5),
  .inl (0, 5),
  .inr (.inl (4, [35, 42])),
  .inr (.inr (5, [none, none, none, none, none, none, none, none, some 36, some 37, some 38, some 39, some 40, some 41])),
  .inl (0, 10),
  .inl (0, 10),
  .inl (0, 10),
  .inl (0, 5),
  .inl (0, 5),
  .inl (0, 5),
  .inr (.inr (5, [none, none, none, none, none, none, none, none, some 43, some 44, some 45, some 46, some 47, some 48])),
  .inl (0, 10),
  .inl (0, 10),
  .inl (0, 10),
  .inl (0, 5),
  .inl (0, 5),
  .inl (0, 5),
  .inr (.inr (0, [some 50, some 51, some 52, none, none])),
  .inl (0, 24),
  .inl (0, 24),
  .inl (0, 24),
  .inr (.inr (2, [some 54, some 55, some 56, none, some 57, some 58, some 59, some 60])),
  .inl (2, 1024),
  .inl (0, 275),
  .inl (0, 275),
  .inl (0, 1024),
  .inl (0, 1024),
  .inl (0, 100),
  .inl (1, 11),
  .inr (.inr (1, [some 62, none, none, none, none, none])),
  .inl (0, 16),
  .inr (.inr (6, [some 64, some 65, none])),
  .inl (0, 10),
  .inl (0, 10),
  .inr (.inr (8, [some 67, some 68, some 69, some 70, none, some 71, none, none, none, none, some 72, some 73, some 74, some 75, none, some 76, some 77, some 78, some 79, none, some 80, some 81, some 82])),
  .inl (0, 8),
  .inl (0, 8),
  .inl (0, 320),
  .inl (0, 40),
  .inl (0, 120),
  .inl (0, 41),
  .inl (0, 41),
  .inl (0, 10),
  .inl (0, 432),
  .inl (0, 82),
  .inl (2, 2),
  .inl (1, 1024),
  .inl (0, 16),
  .inl (1, 5),
  .inl (1, 11),
  .inl (0, 18)]
def zfld (M : ZM) (ad : Nat → Nat) (k j : Nat) (f : Option Nat) : Value := match f with
  | none => .int (M.1 k j)
  | some t => .ref (ad t)
def zcell (dA : Nat → ClassId) (ad : Nat → Nat) (M : ZM) (k : Nat) (y : ZY) : va_E := match y with
  | .inl (t, n) => .inl (dA t, n, if t = 1 then .inr (.inl (M.2 k)) else .inl (M.1 k))
  | .inr (.inl (t, ts)) => .inl (dA t, ts.length, .inr (.inr (.inr (.inr (fun j => (ts[j]?).map ad)))))
  | .inr (.inr (ci, fs)) => .inr (ci, fs.mapIdx (zfld M ad k))
def zwd (dA : Nat → ClassId) (ad : Nat → Nat) (M : ZM) : va_W := zLay.mapIdx (fun k y => (ad k, zcell dA ad M k y))
theorem zwd_at {dA : Nat → ClassId} {ad : Nat → Nat} {M : ZM} {k : Nat} {y : ZY} (h : zLay[k]? = some y) : (zwd dA ad M)[k]? = some (ad k, zcell dA ad M k y) := by
  simp [zwd, List.getElem?_mapIdx, h]
theorem zwd_set {dA : Nat → ClassId} {ad : Nat → Nat} {M M' : ZM} {a : Nat} {y : ZY} {e : va_E} (ha : zLay[a]? = some y) (h : zcell dA ad M' a y = e) (ho : ∀ k, k ≠ a → M'.1 k = M.1 k ∧ M'.2 k = M.2 k) : (zwd dA ad M).set a (ad a, e) = zwd dA ad M' := by
  apply List.ext_getElem?
  intro k
  rw [List.getElem?_set]
  by_cases hk : a = k
  · subst hk
    have hlt : a < (zwd dA ad M).length := by
      simp only [zwd, List.length_mapIdx]
      exact (List.getElem?_eq_some_iff.mp ha).1
    rw [if_pos rfl, if_pos hlt, zwd_at ha, h]
  · rw [if_neg hk]
    simp only [zwd, List.getElem?_mapIdx]
    cases hy : zLay[k]? with
    | none => rfl
    | some z =>
      obtain ⟨h1, h2⟩ := ho k (fun e => hk e.symm)
      simp only [Option.map_some, Option.some.injEq, Prod.mk.injEq, true_and]
      rcases z with ⟨t, n⟩ | ⟨t, ts⟩ | ⟨ci, fs⟩
      · simp only [zcell, h1, h2]
      · rfl
      · have : zfld M' ad k = zfld M ad k := by
          funext j f
          cases f <;> simp [zfld, h1]
        simp only [zcell, this]
def zw (M : ZM) (c k : Nat) (v : Int32) : ZM := (fun c' => if c' = c then upd (M.1 c) k v else M.1 c', M.2)
def zwl (M : ZM) (c k : Nat) (v : Int64) : ZM := (M.1, fun c' => if c' = c then vp_updL (M.2 c) k v else M.2 c')
def zcp (M : ZM) (a sp b dp n : Nat) : ZM := (fun c' => if c' = b then va_cpy (M.1 a) (M.1 b) sp dp n else M.1 c', M.2)
/-- a check: what follows, or nothing -/
def zck {α : Type} (b : Bool) (x : Option α) : Option α := match b with
  | true => x
  | false => none
theorem zck_some {α : Type} {b : Bool} {x : Option α} {o : α} (h : zck b x = some o) : b = true ∧ x = some o := by
  cases b
  · cases h
  · exact ⟨rfl, h⟩
def zfi (a ci j : Nat) : Bool := match zLay[a]? with
  | some (.inr (.inr (c, fs))) => c == ci && (match fs[j]? with | some none => true | _ => false)
  | _ => false
def zfr (a ci j : Nat) : Bool := match zLay[a]? with
  | some (.inr (.inr (c, fs))) => c == ci && (match fs[j]? with | some (some _) => true | _ => false)
  | _ => false
def zrf (a j : Nat) : Nat := match zLay[a]? with
  | some (.inr (.inr (_, fs))) => (match fs[j]? with | some (some t) => t | _ => 0)
  | _ => 0
def zis (a ci : Nat) : Bool := match zLay[a]? with
  | some (.inr (.inr (c, _))) => c == ci
  | _ => false
def zty (a t : Nat) : Bool := match zLay[a]? with
  | some (.inl (t', _)) => t' == t
  | _ => false
def zln (a : Nat) : Nat := match zLay[a]? with
  | some (.inl (_, n)) => n
  | _ => 0
def ztr3 (a t : Nat) : Bool := match zLay[a]? with
  | some (.inr (.inl (t', _))) => t' == t
  | _ => false
def zrl (a : Nat) : Nat := match zLay[a]? with
  | some (.inr (.inl (_, ts))) => ts.length
  | _ => 0
def zel (a i : Nat) : Nat := match zLay[a]? with
  | some (.inr (.inl (_, ts))) => (match ts[i]? with | some t => t | none => 0)
  | _ => 0
def zin (i : Int32) (n : Nat) : Bool := !(decide (i < 0)) && decide (i.toNatClampNeg < n)
theorem zin_in {i : Int32} {n : Nat} (h : zin i n = true) : vp_in i n := by
  simp only [zin, Bool.and_eq_true, Bool.not_eq_true', decide_eq_false_iff_not, decide_eq_true_eq] at h
  intro q
  rcases q with q | q
  · exact h.1 q
  · omega
def zb01 (x : Int32) : Bool := x == 0 || x == 1
theorem zb01_nar {x : Int32} (h : zb01 x = true) : narrow .boolean (.int x) = .int x ∧ fits .boolean (.int x) = true ∧ vp_nar .boolean x = x := by
  simp only [zb01, Bool.or_eq_true, beq_iff_eq] at h
  rcases h with rfl | rfl <;> exact ⟨by decide +kernel, by decide +kernel, by decide +kernel⟩
theorem zfi_spec {a ci j : Nat} (h : zfi a ci j = true) : ∃ fs, zLay[a]? = some (.inr (.inr (ci, fs))) ∧ fs[j]? = some none := by
  unfold zfi at h
  split at h
  · rename_i c fs hy
    simp only [Bool.and_eq_true, beq_iff_eq] at h
    obtain ⟨rfl, h2⟩ := h
    refine ⟨fs, hy, ?_⟩
    split at h2
    · assumption
    · cases h2
  · cases h
theorem zfr_spec {a ci j : Nat} (h : zfr a ci j = true) : ∃ fs, zLay[a]? = some (.inr (.inr (ci, fs))) ∧ fs[j]? = some (some (zrf a j)) := by
  unfold zfr at h
  split at h
  · rename_i c fs hy
    simp only [Bool.and_eq_true, beq_iff_eq] at h
    obtain ⟨rfl, h2⟩ := h
    refine ⟨fs, hy, ?_⟩
    unfold zrf
    rw [hy]
    split at h2
    · rename_i t ht
      simp [ht]
    · cases h2
  · cases h
theorem zis_spec {a ci : Nat} (h : zis a ci = true) : ∃ fs, zLay[a]? = some (.inr (.inr (ci, fs))) := by
  unfold zis at h
  split at h
  · rename_i c fs hy
    simp only [beq_iff_eq] at h
    subst h
    exact ⟨fs, hy⟩
  · cases h
theorem zty_spec {a t : Nat} (h : zty a t = true) : zLay[a]? = some (.inl (t, zln a)) := by
  unfold zty at h
  split at h
  · rename_i t' n hy
    simp only [beq_iff_eq] at h
    subst h
    simp only [zln, hy]
  · cases h
theorem ztr3_spec {a t : Nat} (h : ztr3 a t = true) : ∃ ts, zLay[a]? = some (.inr (.inl (t, ts))) ∧ ts.length = zrl a ∧ ∀ i, i < zrl a → ts[i]? = some (zel a i) := by
  unfold ztr3 at h
  split at h
  · rename_i t' ts hy
    simp only [beq_iff_eq] at h
    subst h
    refine ⟨ts, hy, by simp only [zrl, hy], fun i hi => ?_⟩
    simp only [zrl, hy] at hi
    simp only [zel, hy]
    have := List.getElem?_eq_getElem hi
    rw [this]
  · cases h
def ztr (ad : Nat → Nat) (v : Value) : Value := match v with
  | .ref k => .ref (ad k)
  | w => w
theorem ztr_cat (ad : Nat → Nat) (v : Value) : (ztr ad v).category = v.category := by cases v <;> rfl
theorem ztr_sum (ad : Nat → Nat) (st : List Value) : ((st.map (ztr ad)).map fun v => v.category).sum = (st.map fun v => v.category).sum := by
  induction st with
  | nil => rfl
  | cons a t ih => simp only [List.map_cons, List.sum_cons, ih, ztr_cat]
/-- the locals by their places -/
def zLH (ad : Nat → Nat) (ls : Array Slot) (nL : Nat) (lo : ZL) : Prop := ls.size = nL ∧ lv_wf ls ∧ ∀ (i : Nat) (v : Value), lo[i]? = some (some v) → ls[i]? = some (.val (ztr ad v))
def zas (ad : Nat → Nat) (lo : ZL) : List (Nat × Value) := (List.range lo.length).filterMap (fun i => match lo[i]? with | some (some v) => some (i, ztr ad v) | _ => none)
theorem zas_mem {ad : Nat → Nat} {lo : ZL} {q : Nat × Value} : q ∈ zas ad lo ↔ ∃ v, lo[q.1]? = some (some v) ∧ q.2 = ztr ad v := by
  unfold zas
  rw [List.mem_filterMap]
  constructor
  · rintro ⟨i, hi, h⟩
    split at h
    · rename_i v hv
      cases h
      exact ⟨v, hv, rfl⟩
    · cases h
  · rintro ⟨v, hv, he⟩
    refine ⟨q.1, List.mem_range.mpr (List.getElem?_eq_some_iff.mp hv).1, ?_⟩
    rw [hv]
    simp only [← he]
theorem zLH_has {ad : Nat → Nat} {ls : Array Slot} {nL : Nat} {lo : ZL} (h : zLH ad ls nL lo) : lv_has ls nL (zas ad lo) :=
  ⟨h.1, h.2.1, fun q hq => by obtain ⟨v, hv, he⟩ := zas_mem.mp hq; rw [he]; exact h.2.2 q.1 v hv⟩
/-- a long ahead of the place is lost -/
def zkl (lo : ZL) (i : Nat) : ZL := match i with
  | 0 => lo
  | j + 1 => match lo[j]? with
    | some (some v) => if v.category = 2 then lo.set j none else lo
    | _ => lo
def zs1 (lo : ZL) (i : Nat) (v : Value) : ZL := (zkl lo i).set i (some v)
def zs2 (lo : ZL) (i : Nat) (v : Value) : ZL := ((zkl lo i).set i (some v)).set (i + 1) none
theorem zkl_get {lo : ZL} {i k : Nat} {v : Value} (h : (zkl lo i)[k]? = some (some v)) : lo[k]? = some (some v) ∧ ¬ (k + 1 = i ∧ v.category = 2) := by
  unfold zkl at h
  split at h
  · exact ⟨h, fun q => by omega⟩
  · rename_i j
    split at h
    · rename_i w hw
      split at h
      · rw [List.getElem?_set] at h
        split at h
        · split at h <;> cases h
        · exact ⟨h, fun q => by omega⟩
      · rename_i hc
        refine ⟨h, fun q => hc ?_⟩
        have : k = j := by omega
        subst this
        rw [hw] at h
        cases h
        exact q.2
    · rename_i hn
      refine ⟨h, fun q => ?_⟩
      have : k = j := by omega
      subst this
      exact hn v h
theorem zLH_s1 {ad : Nat → Nat} {ls' : Array Slot} {nL i : Nat} {lo : ZL} {v : Value}
    (h : lv_has ls' nL ((i, ztr ad v) :: (zas ad lo).filter (fun q => !(q.1 == i) && !(q.1 + 1 == i && q.2.category == 2)))) : zLH ad ls' nL (zs1 lo i v) := by
  refine ⟨h.1, h.2.1, fun k w hk => ?_⟩
  unfold zs1 at hk
  rw [List.getElem?_set] at hk
  split at hk
  · rename_i e
    subst e
    split at hk
    · cases hk
      exact h.2.2 _ List.mem_cons_self
    · cases hk
  · rename_i hne
    obtain ⟨h1, h2⟩ := zkl_get hk
    refine h.2.2 (k, ztr ad w) (List.mem_cons_of_mem _ (List.mem_filter.mpr ⟨zas_mem.mpr ⟨w, h1, rfl⟩, ?_⟩))
    simp only [ztr_cat, Bool.and_eq_true, Bool.not_eq_true', beq_eq_false_iff_ne, ne_eq, Bool.and_eq_false_imp, beq_iff_eq]
    refine ⟨fun e => hne e.symm, fun e c => ?_⟩
    exact h2 ⟨e, c⟩
theorem zLH_s2 {ad : Nat → Nat} {ls' : Array Slot} {nL i : Nat} {lo : ZL} {v : Value}
    (h : lv_has ls' nL ((i, ztr ad v) :: (zas ad lo).filter (fun q => !(q.1 == i) && (!(q.1 == i + 1) && !(q.1 + 1 == i && q.2.category == 2))))) : zLH ad ls' nL (zs2 lo i v) := by
  refine ⟨h.1, h.2.1, fun k w hk => ?_⟩
  unfold zs2 at hk
  rw [List.getElem?_set] at hk
  split at hk
  · split at hk <;> cases hk
  · rename_i hne1
    rw [List.getElem?_set] at hk
    split at hk
    · rename_i e
      subst e
      split at hk
      · cases hk
        exact h.2.2 _ List.mem_cons_self
      · cases hk
    · rename_i hne
      obtain ⟨h1, h2⟩ := zkl_get hk
      refine h.2.2 (k, ztr ad w) (List.mem_cons_of_mem _ (List.mem_filter.mpr ⟨zas_mem.mpr ⟨w, h1, rfl⟩, ?_⟩))
      simp only [ztr_cat, Bool.and_eq_true, Bool.not_eq_true', beq_eq_false_iff_ne, ne_eq, Bool.and_eq_false_imp, beq_iff_eq]
      refine ⟨fun e => hne e.symm, fun e => hne1 e.symm, fun e c => ?_⟩
      exact h2 ⟨e, c⟩


/-! parting: a side that costs fewest hangs together -/
theorem zsum_mono {f g : Nat → Nat} : ∀ {n : Nat}, (∀ i, i < n → f i ≤ g i) → zsum f n ≤ zsum g n
  | 0, _ => Nat.le_refl _
  | n + 1, h => by
    rw [zsum, zsum]
    have h1 := zsum_mono (n := n) (fun i hi => h i (by omega))
    have h2 := h n (by omega)
    omega
theorem zpop_mono {x y : Nat} (h : ∀ i, x.testBit i = true → y.testBit i = true) : zpop x ≤ zpop y := zsum_mono (fun i _ => by
  cases hx : x.testBit i
  · simp
  · rw [h i hx]; simp)
theorem znx_pop : ∀ q ∈ zshp, ∀ c, c < q.2 → zpop (znx q.1 q.2 c) ≤ 4 := by decide +kernel
section ZX38
variable {S : Nat → Nat}
theorem ztear_40 (hW : zwf S) (o s : Nat) : ztear S o s ≤ 40 := by
  have hn := hW.n
  have : ztear S o s ≤ S 0 * 4 := zsum_le (fun i hi => by
    split
    · refine Nat.le_trans (zpop_mono (y := znx (S 1) (S 0) i) (fun j hj => ?_)) (znx_pop _ (hW.sh (by omega)) i hi)
      rw [zdif_bit, Bool.and_eq_true, Nat.testBit_and, Bool.and_eq_true] at hj
      exact hj.1.1
    · omega)
  omega
theorem ztear_comp (hW : zwf S) {o s c : Nat} (hs : s < 2 ^ S 0) (hc : s.testBit c = true) : ztear S o (zcomp S s (2 ^ c)) ≤ ztear S o s := by
  have hn := hW.n
  have hp := zpow10 hn
  have hcn := zlt_of_bit hs hc
  have hsub : ∀ i, (zcomp S s (2 ^ c)).testBit i = true → s.testBit i = true := zcomp_sub (fun i hi => by rw [zpow_bit.mp hi]; exact hc)
  refine zsum_mono (fun i hi => ?_)
  cases hb : (zcomp S s (2 ^ c)).testBit i
  · rw [if_neg (by decide)]; exact Nat.zero_le _
  · rw [if_pos rfl, hsub i hb, if_pos rfl]
    refine zpop_mono (fun j hj => ?_)
    rw [zdif_bit, Bool.and_eq_true, Bool.not_eq_true'] at hj ⊢
    refine ⟨hj.1, ?_⟩
    cases hsj : s.testBit j
    · rfl
    · have h1 := hj.1
      rw [Nat.testBit_and, Bool.and_eq_true] at h1
      have := zcomp_next (S := S) (W := s) (p := 2 ^ c) (by omega) (zpow_lt (by omega)) hi hb h1.1 hsj
      rw [this] at hj
      cases hj.2
theorem zhang_of (hW : zwf S) {s c : Nat} (hs : s < 2 ^ S 0) (hc : s.testBit c = true) (h : zcomp S s (2 ^ c) = s) : zhang S s = true := by
  have hn := hW.n
  have hp := zpow10 hn
  have h0 : s ≠ 0 := fun q => by rw [q, Nat.zero_testBit] at hc; cases hc
  obtain ⟨l1, l2, -⟩ := zlow_lt s (by omega) h0
  have h1 : (zit S s (2 ^ c) 10).testBit (zlow s) = true := by
    show (zcomp S s (2 ^ c)).testBit _ = true
    rw [h]; exact l2
  have h2 := zR_s1 hW hs 10 c (zlow s) hc l2 h1
  have h3 : zcomp S s (2 ^ zlow s) = s := by
    apply zeqb
    intro i
    constructor
    · exact zcomp_sub (fun i hi => by rw [zpow_bit.mp hi]; exact l2) i
    · intro hi
      rw [← h] at hi
      refine zcomp_least (T := zcomp S s (2 ^ zlow s)) (fun j hj => by rw [zpow_bit.mp hj]; exact h2) (fun e j he h4 h5 h6 => zcomp_next (by omega) (zpow_lt l1) he h4 h5 h6) i hi
  unfold zhang
  rw [h3]
  simp [h0]
/-- a side of a without e -/
def zsd (S : Nat → Nat) (a e s : Nat) : Bool := s.testBit a && (!s.testBit e && zheld S s)
def zsC (S : Nat → Nat) (a e : Nat) (p : Nat × Nat) (s : Nat) : Nat × Nat := if zsd S a e s && (decide (p.1 = 0) || decide (ztear S (zon S) s < p.2)) then (s, ztear S (zon S) s) else p
def zsM (S : Nat → Nat) (a e : Nat) (p : Nat × Nat) (s : Nat) : Nat × Nat := if zsd S a e s && decide (ztear S (zon S) s < p.2) then (s, ztear S (zon S) s) else p
theorem zsd_ex (hW : zwf S) {a e : Nat} (ha : (zon S).testBit a = true) (hae : a ≠ e) : ∃ s, s < 2 ^ S 0 ∧ s ≠ 0 ∧ zsd S a e s = true ∧ zhang S s = true ∧ (∀ t, zsd S a e t = true → ztear S (zon S) s ≤ ztear S (zon S) t) ∧ ∀ t, t < s → zsd S a e t = true → ztear S (zon S) s < ztear S (zon S) t := by
  have hex : ∃ k, ∃ s, zsd S a e s = true ∧ ztear S (zon S) s = k := by
    refine ⟨_, 2 ^ a, ?_, rfl⟩
    unfold zsd zheld
    rw [zpow_bit.mpr rfl]
    have h1 : (2 ^ a).testBit e = false := by
      cases q : (2 ^ a).testBit e
      · rfl
      · have := zpow_bit.mp q; omega
    have h2 : zdif (2 ^ a) (zon S) = 0 := zdif_0.mpr (fun i hi => by rw [zpow_bit.mp hi]; exact ha)
    rw [h1, h2]; rfl
  obtain ⟨k, hk, hl⟩ := pk_least _ hex
  obtain ⟨s, ⟨hs, hsk⟩, hls⟩ := pk_least _ hk
  have hmin : ∀ t, zsd S a e t = true → ztear S (zon S) s ≤ ztear S (zon S) t := fun t ht => by
    rw [hsk]
    exact Nat.le_of_not_lt (fun q => hl _ q ⟨t, ht, rfl⟩)
  have hfst : ∀ t, t < s → zsd S a e t = true → ztear S (zon S) s < ztear S (zon S) t := fun t hts ht => by
    refine Nat.lt_of_le_of_ne (hmin t ht) (fun q => ?_)
    exact hls t hts ⟨ht, by rw [← q]; exact hsk⟩
  have hs2 := hs
  unfold zsd at hs2
  rw [Bool.and_eq_true, Bool.and_eq_true, Bool.not_eq_true'] at hs2
  obtain ⟨s1, s2, s3⟩ := hs2
  have hlt := zheld_lt s3
  have hs0 : s ≠ 0 := fun q => by rw [q, Nat.zero_testBit] at s1; cases s1
  refine ⟨s, hlt, hs0, hs, ?_, hmin, hfst⟩
  refine zhang_of hW hlt s1 ?_
  refine Decidable.of_not_not (fun hne => ?_)
  have hn := hW.n
  have hp := zpow10 hn
  have hsub : ∀ i, (zcomp S s (2 ^ a)).testBit i = true → s.testBit i = true := zcomp_sub (fun i hi => by rw [zpow_bit.mp hi]; exact s1)
  have hle : zcomp S s (2 ^ a) ≤ s := by
    have : zcomp S s (2 ^ a) &&& s = zcomp S s (2 ^ a) := by
      apply zeqb
      intro i
      rw [Nat.testBit_and, Bool.and_eq_true]
      exact ⟨fun h => h.1, fun h => ⟨h, hsub i h⟩⟩
    rw [← this]
    exact Nat.and_le_right
  have hC : zsd S a e (zcomp S s (2 ^ a)) = true := by
    unfold zsd
    rw [zcomp_in (zpow_bit.mpr rfl)]
    have h1 : (zcomp S s (2 ^ a)).testBit e = false := by
      cases q : (zcomp S s (2 ^ a)).testBit e
      · rfl
      · rw [hsub e q] at s2; cases s2
    have h2 : zheld S (zcomp S s (2 ^ a)) = true := by
      unfold zheld
      rw [zdif_0.mpr (fun i hi => zheld_bit s3 (hsub i hi))]; rfl
    rw [h1, h2]; rfl
  have h3 := hfst _ (Nat.lt_of_le_of_ne hle hne) hC
  have h4 := ztear_comp hW (o := zon S) hlt s1
  omega
theorem zsC_end {a e s : Nat} {g : Nat × Nat → Nat → Nat × Nat} (hg : ∀ p t, g p t = if zhang S t then zsC S a e p t else p) (hs : zsd S a e s = true) (s0 : s ≠ 0) (hh : zhang S s = true) (hmin : ∀ t, zsd S a e t = true → ztear S (zon S) s ≤ ztear S (zon S) t) (hfst : ∀ t, t < s → zsd S a e t = true → ztear S (zon S) s < ztear S (zon S) t) : ∀ k, (k ≤ s → (((List.range k).foldl g (0, 0)).1 = 0 ∨ ztear S (zon S) s < ((List.range k).foldl g (0, 0)).2)) ∧ (s < k → (List.range k).foldl g (0, 0) = (s, ztear S (zon S) s)) := by
  intro k
  induction k with
  | zero => exact ⟨fun _ => Or.inl rfl, fun h => by omega⟩
  | succ k ih =>
    rw [zrange_succ, hg]
    refine ⟨fun h => ?_, fun h => ?_⟩
    · have h1 := ih.1 (by omega)
      split
      · unfold zsC
        split
        · rename_i h2
          rw [Bool.and_eq_true] at h2
          exact Or.inr (hfst k (by omega) h2.1)
        · exact h1
      · exact h1
    · by_cases e1 : k = s
      · subst e1
        rw [hh, if_pos rfl]
        unfold zsC
        rw [if_pos]
        rw [hs, Bool.true_and, Bool.or_eq_true, decide_eq_true_eq, decide_eq_true_eq]
        exact ih.1 (Nat.le_refl _)
      · rw [ih.2 (by omega)]
        split
        · unfold zsC
          dsimp only
          rw [if_neg]
          rw [Bool.and_eq_true, Bool.or_eq_true, decide_eq_true_eq, decide_eq_true_eq]
          rintro ⟨h1, h2 | h2⟩
          · exact s0 h2
          · have := hmin k h1
            omega
        · rfl
theorem zsM_end {a e s : Nat} (hs : zsd S a e s = true) (h99 : ztear S (zon S) s < 99) (hmin : ∀ t, zsd S a e t = true → ztear S (zon S) s ≤ ztear S (zon S) t) (hfst : ∀ t, t < s → zsd S a e t = true → ztear S (zon S) s < ztear S (zon S) t) : ∀ k, (k ≤ s → ztear S (zon S) s < ((List.range k).foldl (zsM S a e) (0, 99)).2) ∧ (s < k → (List.range k).foldl (zsM S a e) (0, 99) = (s, ztear S (zon S) s)) := by
  intro k
  induction k with
  | zero => exact ⟨fun _ => h99, fun h => by omega⟩
  | succ k ih =>
    rw [zrange_succ]
    refine ⟨fun h => ?_, fun h => ?_⟩
    · have h1 := ih.1 (by omega)
      unfold zsM
      split
      · rename_i h2
        rw [Bool.and_eq_true] at h2
        exact hfst k (by omega) h2.1
      · exact h1
    · by_cases e1 : k = s
      · subst e1
        have h1 := ih.1 (Nat.le_refl _)
        unfold zsM at h1 ⊢
        rw [if_pos]
        rw [hs, Bool.true_and, decide_eq_true_eq]
        exact h1
      · rw [ih.2 (by omega)]
        unfold zsM
        dsimp only
        rw [if_neg]
        rw [Bool.and_eq_true, decide_eq_true_eq]
        rintro ⟨h1, h2⟩
        have := hmin k h1
        omega
end ZX38
section ZX39
variable {d : Nat} {M : ZM} {S : Nat → Nat} {b : Nat}
theorem zsC_lt {a e : Nat} : ∀ {l : List Nat} {p : Nat × Nat}, (∀ s, s ∈ l → s < 1024) → p.1 < 1024 → (zwf S) → p.2 ≤ 40 → (l.foldl (zsC S a e) p).1 < 1024 ∧ (l.foldl (zsC S a e) p).2 ≤ 40
  | [], _, _, h, _, h2 => ⟨h, h2⟩
  | s :: l, p, hl, h, hW, h2 => by
    rw [List.foldl_cons]
    have : (zsC S a e p s).1 < 1024 ∧ (zsC S a e p s).2 ≤ 40 := by
      unfold zsC
      split
      · exact ⟨hl s (by simp), ztear_40 hW _ _⟩
      · exact ⟨h, h2⟩
    exact zsC_lt (fun t ht => hl t (by simp [ht])) this.1 hW this.2
theorem s_sideC (hd : 3 ≤ d) (hb : zsh b) (hW : zwf S) (hS : zSheet S b M) (hF : zFin S M) {a e : Nat} (ha : a < 10) (he : e < 10) : (zenv zbt d).1 35 [.ref 53, .ref b, .int (nI a), .int (nI e)] M = some (nI ((zHL S).foldl (zsC S a e) (0, 0)).1, M) := by
  obtain ⟨d, rfl⟩ : ∃ e, d = e + 1 := ⟨d - 1, by omega⟩
  have hlen := zHL_len hW
  have hpw := zpow10 hW.n
  have key : ∀ i, i ≤ (zHL S).length → zL (zenv zbt d) tb_X2_sideOf cu_X2_sideOf 9 [some (.ref 53), some (.ref b), some (.int (nI a)), some (.int (nI e)), some (.int (nI (((zHL S).take i).foldl (zsC S a e) (0, 0)).1)), some (.int (nI (((zHL S).take i).foldl (zsC S a e) (0, 0)).2)), some (.int (nI i)), none, none, none] [] M (some (.int (nI ((zHL S).foldl (zsC S a e) (0, 0)).1)), M) := by
    apply zup
    · apply zL_of; rw [e_X2_sideOf_9 _ _ _ hb, hF.2.1, if_pos (nI_le (Nat.le_refl _) (by omega)), ztake_all]; rfl
    · intro i hi ih
      obtain ⟨s, hs⟩ : ∃ s, (zHL S)[i]? = some s := ⟨_, List.getElem?_eq_getElem hi⟩
      obtain ⟨m1, m2, m3⟩ := zHL_mem hs
      have hs10 : s < 1024 := by omega
      rw [ztake_succ hs] at ih
      obtain ⟨b1, b2⟩ := zsC_lt (S := S) (a := a) (e := e) (l := (zHL S).take i) (p := (0, 0)) (fun t ht => by
        have := (zHL_in (List.mem_of_mem_take ht)).1
        omega) (by decide) hW (by decide)
      generalize ((zHL S).take i).foldl (zsC S a e) (0, 0) = p at ih b1 b2 ⊢
      obtain ⟨x, f⟩ := p
      dsimp only at b1 b2 ⊢
      have ht40 := ztear_40 hW (zon S) s
      have skip : zsd S a e s = false → zL (zenv zbt d) tb_X2_sideOf cu_X2_sideOf 9 [some (.ref 53), some (.ref b), some (.int (nI a)), some (.int (nI e)), some (.int (nI x)), some (.int (nI f)), some (.int (nI (i + 1))), none, none, none] [] M (some (.int (nI ((zHL S).foldl (zsC S a e) (0, 0)).1)), M) := fun h => by
        unfold zsC at ih
        rw [h, Bool.false_and, if_neg (by decide)] at ih
        exact ih
      apply zL_of; rw [e_X2_sideOf_9 _ _ _ hb, hF.2.1, if_neg (nI_ge hi (by omega)), zck_t (zinN (by omega) (by decide)), zcN (by omega), hF.2.2 i s hs, nI_1]
      cases q1 : s.testBit a
      · rw [if_pos ((zbit0 (by omega) (by omega)).mpr q1), if_pos rfl]
        exact zPo_go (skip (by unfold zsd; rw [q1]; rfl))
      · rw [if_neg (fun q => by rw [zbit0 (by omega) (by omega), q1] at q; cases q)]
        cases q2 : s.testBit e
        · rw [if_pos ((zbit0 (by omega) (by omega)).mpr q2), if_neg zn10, s_holds (by omega) hb hW hS (by omega), Option.bind_some]
          dsimp only
          by_cases q3 : zdif s (zon S) = 0
          · have hsd : zsd S a e s = true := by
              unfold zsd zheld
              rw [q1, q2, q3]; rfl
            rw [zbi_t q3, if_neg zn10, s_tearsOf (by omega) hb hW hS hs10, Option.bind_some]
            dsimp only
            unfold zsC at ih
            rw [hsd, Bool.true_and] at ih
            dsimp only at ih
            by_cases x0 : x = 0
            · rw [x0, if_pos (by rfl)] at ih
              rw [x0, if_pos (by decide)]
              exact zPo_go ih
            · rw [if_neg (nI_ne0 (by omega) (by omega))]
              rw [decide_eq_false x0, Bool.false_or] at ih
              by_cases f0 : ztear S (zon S) s < f
              · rw [decide_eq_true f0, if_pos rfl] at ih
                rw [if_neg (nI_ge f0 (by omega))]
                exact zPo_go ih
              · rw [decide_eq_false f0, if_neg (by decide)] at ih
                rw [if_pos (nI_le (by omega) (by omega))]
                exact zPo_go ih
          · rw [zbi_f q3, if_pos rfl]
            exact zPo_go (skip (by
              unfold zsd zheld
              rw [show (zdif s (zon S) == 0) = false by simpa using q3]
              simp))
        · rw [if_neg (fun q => by rw [zbit0 (by omega) (by omega), q2] at q; cases q), if_pos rfl]
          exact zPo_go (skip (by unfold zsd; rw [q2]; simp))
  apply c_X2_sideOf
  apply zL_of; rw [e_X2_sideOf_0 _ _ _ hb]
  exact zPo_go (key 0 (by omega))
theorem zsM_lt {a e : Nat} (hW : zwf S) : ∀ k, k ≤ 1024 → ((List.range k).foldl (zsM S a e) (0, 99)).1 < 1024 ∧ ((List.range k).foldl (zsM S a e) (0, 99)).2 ≤ 99 := by
  intro k
  induction k with
  | zero => intro _; exact ⟨show 0 < 1024 by decide, show 99 ≤ 99 by decide⟩
  | succ k ih =>
    intro hk
    have h1 := ih (by omega)
    rw [zrange_succ]
    unfold zsM
    split
    · have := ztear_40 hW (zon S) k
      exact ⟨by omega, by omega⟩
    · exact h1
theorem l_partM (hd : 4 ≤ d) (hW : zwf S) (hM : zMod S M) {a e : Nat} (ha : a < 10) (he : e < 10) (z : Int32) : ∀ s, s ≤ 2 ^ S 0 → zL (zenv zbt d) tb_X8_parting cu_X8_parting 68 [some (.ref 66), some (.int (nI a)), some (.int (nI e)), some (.int z), some (.int (nI ((List.range s).foldl (zsM S a e) (0, 99)).2)), some (.int (nI ((List.range s).foldl (zsM S a e) (0, 99)).1)), some (.int (nI s)), none] [] M (some (.int (if z = 0 then nI ((List.range (2 ^ S 0)).foldl (zsM S a e) (0, 99)).2 else nI ((List.range (2 ^ S 0)).foldl (zsM S a e) (0, 99)).1)), M) := by
  have hn := hW.n
  have hpw := zpow10 hn
  apply zup
  · apply zL_of; rw [e_X8_parting_68, hM.1 0 (by decide), show zshl 1 (nI (S 0)) = nI (2 ^ S 0) from zshl1 (by omega), if_pos (nI_le (Nat.le_refl _) (by omega))]
    exact zPo_ite rfl
  · intro s hs ih
    rw [zrange_succ] at ih
    obtain ⟨b1, b2⟩ := zsM_lt (S := S) (a := a) (e := e) hW s (by omega)
    generalize hp : (List.range s).foldl (zsM S a e) (0, 99) = p at ih b1 b2 ⊢
    obtain ⟨x, f⟩ := p
    dsimp only at b1 b2 ⊢
    clear hp
    have ht40 := ztear_40 hW (zon S) s
    have hg : zgone S < 2 ^ 31 ∨ True := Or.inr trivial
    have skip : zsd S a e s = false → zL (zenv zbt d) tb_X8_parting cu_X8_parting 68 [some (.ref 66), some (.int (nI a)), some (.int (nI e)), some (.int z), some (.int (nI f)), some (.int (nI x)), some (.int (nI (s + 1))), none] [] M (some (.int (if z = 0 then nI ((List.range (2 ^ S 0)).foldl (zsM S a e) (0, 99)).2 else nI ((List.range (2 ^ S 0)).foldl (zsM S a e) (0, 99)).1)), M) := fun h => by
      unfold zsM at ih
      rw [h, Bool.false_and, if_neg (by decide)] at ih
      exact ih
    have hsg : s &&& zgone S < 2 ^ 10 := by
      rw [Nat.and_comm]
      exact Nat.and_lt_two_pow _ (by omega)
    apply zL_of; rw [e_X8_parting_68, hM.1 0 (by decide), show zshl 1 (nI (S 0)) = nI (2 ^ S 0) from zshl1 (by omega), if_neg (nI_ge hs (by omega)), s_gone (by omega) hM, Option.bind_some]
    dsimp only
    rw [zand, nI_1]
    cases q3 : zheld S s
    · have q4 : ¬ (s &&& zgone S = 0) := fun q => by rw [(zheld_gone hs).mp q] at q3; cases q3
      rw [if_neg (nI_ne0 (by omega) (by omega))]
      exact zPo_go (skip (by unfold zsd; rw [q3]; simp))
    · rw [if_pos (by rw [(zheld_gone hs).mpr q3]; rfl), s_has (by omega) (by omega) (by omega), Option.bind_some]
      dsimp only
      cases q1 : s.testBit a
      · rw [zbi_f (by decide), if_pos rfl]
        exact zPo_go (skip (by unfold zsd; rw [q1]; rfl))
      · rw [zbi_t rfl, if_neg zn10, s_has (by omega) (by omega) (by omega), Option.bind_some]
        dsimp only
        cases q2 : s.testBit e
        · have hsd : zsd S a e s = true := by
            unfold zsd
            rw [q1, q2, q3]; rfl
          rw [zbi_f (by decide), if_pos rfl, s_mtears (by omega) hW hM (by omega), Option.bind_some]
          dsimp only
          unfold zsM at ih
          rw [hsd, Bool.true_and] at ih
          dsimp only at ih
          by_cases f0 : ztear S (zon S) s < f
          · rw [decide_eq_true f0, if_pos rfl] at ih
            rw [if_neg (nI_ge f0 (by omega)), if_neg (nI_ge f0 (by omega))]
            exact zPo_go ih
          · rw [decide_eq_false f0, if_neg (by decide)] at ih
            rw [if_pos (nI_le (by omega) (by omega)), if_pos (nI_le (by omega) (by omega))]
            exact zPo_go ih
        · rw [zbi_t rfl, if_neg zn10]
          exact zPo_go (skip (by unfold zsd; rw [q2]; simp))
theorem a_parting (hI : zInv S M) (x y z : Int32) : zAl 105 208 [.int x, .int y, .int z] M := by
  intro d hd
  obtain ⟨d, rfl⟩ : ∃ e, d = e + 1 := ⟨d - 1, by omega⟩
  have hn := hI.wf.n
  have hon := hI.wf.on
  have hpw := zpow10 hn
  by_cases h2c : ¬ (zin x (S 0) = true ∧ zin y (S 0) = true ∧ x ≠ y)
  · refine ⟨-1000001, M, M, S, ?_, ?_, hI⟩
    · apply c_X7_parting
      apply zL_of; rw [e_X7_parting_0, s_twoC (by omega) hI, Option.bind_some]
      dsimp only
      rw [zbi_f h2c, if_pos rfl]; rfl
    · apply c_X8_parting
      apply zL_of; rw [e_X8_parting_0, s_isCellM (by omega) hI, Option.bind_some]
      dsimp only
      by_cases h1 : zin x (S 0) = true
      · rw [zbi_t h1, if_neg zn10, s_isCellM (by omega) hI, Option.bind_some]
        dsimp only
        by_cases h2 : zin y (S 0) = true
        · rw [zbi_t h2, if_neg zn10, if_pos (Decidable.of_not_not (fun q => h2c ⟨h1, h2, q⟩))]; rfl
        · rw [zbi_f h2, if_pos rfl]; rfl
      · rw [zbi_f h1, if_pos rfl]; rfl
  have h2c := Decidable.of_not_not h2c
  obtain ⟨hx, hy, hxy⟩ := h2c
  cases hz : zin z 2
  · refine ⟨-1000001, M, M, S, ?_, ?_, hI⟩
    · apply c_X7_parting
      apply zL_of; rw [e_X7_parting_0, s_twoC (by omega) hI, Option.bind_some]
      dsimp only
      rw [zbi_t ⟨hx, hy, hxy⟩, if_neg zn10, s_isEitherC (by omega), Option.bind_some]
      dsimp only
      rw [hz, zbi_f (by decide), if_pos rfl]; rfl
    · apply c_X8_parting
      apply zL_of; rw [e_X8_parting_0, s_isCellM (by omega) hI, Option.bind_some]
      dsimp only
      rw [zbi_t hx, if_neg zn10, s_isCellM (by omega) hI, Option.bind_some]
      dsimp only
      rw [zbi_t hy, if_neg zn10, if_neg hxy, s_in (by omega), Option.bind_some, zbi_eq zgm2]
      dsimp only
      rw [hz, zbi_f (by decide), if_pos rfl]; rfl
  obtain ⟨a, ha, rfl⟩ := (zin_iff (by omega)).mp hx
  obtain ⟨e, he, rfl⟩ := (zin_iff (by omega)).mp hy
  have hae : a ≠ e := fun q => hxy (by rw [q])
  cases ta : (zon S).testBit a
  · refine ⟨-1000002, M, M, S, ?_, ?_, hI⟩
    · apply c_X7_parting
      apply zL_of; rw [e_X7_parting_0, s_twoC (by omega) hI, Option.bind_some]
      dsimp only
      rw [zbi_t ⟨hx, hy, hxy⟩, if_neg zn10, s_isEitherC (by omega), Option.bind_some]
      dsimp only
      rw [zbi_t hz, if_neg zn10, s_isOn (by omega) (Or.inl rfl) hI.wf hI.sh (by omega), Option.bind_some]
      dsimp only
      rw [ta, zbi_f (by decide), if_pos rfl]; rfl
    · apply c_X8_parting
      apply zL_of; rw [e_X8_parting_0, s_isCellM (by omega) hI, Option.bind_some]
      dsimp only
      rw [zbi_t hx, if_neg zn10, s_isCellM (by omega) hI, Option.bind_some]
      dsimp only
      rw [zbi_t hy, if_neg zn10, if_neg hxy, s_in (by omega), Option.bind_some, zbi_eq zgm2]
      dsimp only
      rw [zbi_t hz, if_neg zn10, s_on (by omega) hI.wf hI.md, Option.bind_some]
      dsimp only
      rw [s_has (by omega) (by omega) (by omega), Option.bind_some]
      dsimp only
      rw [ta, zbi_f (by decide), if_pos rfl]; rfl
  cases te : (zon S).testBit e
  · refine ⟨-1000002, M, M, S, ?_, ?_, hI⟩
    · apply c_X7_parting
      apply zL_of; rw [e_X7_parting_0, s_twoC (by omega) hI, Option.bind_some]
      dsimp only
      rw [zbi_t ⟨hx, hy, hxy⟩, if_neg zn10, s_isEitherC (by omega), Option.bind_some]
      dsimp only
      rw [zbi_t hz, if_neg zn10, s_isOn (by omega) (Or.inl rfl) hI.wf hI.sh (by omega), Option.bind_some]
      dsimp only
      rw [zbi_t ta, if_neg zn10, s_isOn (by omega) (Or.inl rfl) hI.wf hI.sh (by omega), Option.bind_some]
      dsimp only
      rw [te, zbi_f (by decide), if_pos rfl]; rfl
    · apply c_X8_parting
      apply zL_of; rw [e_X8_parting_0, s_isCellM (by omega) hI, Option.bind_some]
      dsimp only
      rw [zbi_t hx, if_neg zn10, s_isCellM (by omega) hI, Option.bind_some]
      dsimp only
      rw [zbi_t hy, if_neg zn10, if_neg hxy, s_in (by omega), Option.bind_some, zbi_eq zgm2]
      dsimp only
      rw [zbi_t hz, if_neg zn10, s_on (by omega) hI.wf hI.md, Option.bind_some]
      dsimp only
      rw [s_has (by omega) (by omega) (by omega), Option.bind_some]
      dsimp only
      rw [zbi_t ta, if_neg zn10, s_on (by omega) hI.wf hI.md, Option.bind_some]
      dsimp only
      rw [s_has (by omega) (by omega) (by omega), Option.bind_some]
      dsimp only
      rw [te, zbi_f (by decide), if_pos rfl]; rfl
  obtain ⟨s, s1, s2, s3, s4, s5, s6⟩ := zsd_ex hI.wf ta hae
  have h40 := ztear_40 hI.wf (zon S) s
  have hC : (zHL S).foldl (zsC S a e) (0, 0) = (s, ztear S (zon S) s) := by
    rw [← zfold_HL (g := zsC S a e) (g' := fun p t => if zhang S t then zsC S a e p t else p) (fun p t _ => rfl)]
    exact (zsC_end (fun p t => rfl) s3 s2 s4 s5 s6 (2 ^ S 0)).2 s1
  have hMM := (zsM_end s3 (by omega) s5 s6 (2 ^ S 0)).2 s1
  refine ⟨if z = 0 then nI (ztear S (zon S) s) else nI s, M, M, S, ?_, ?_, hI⟩
  · apply c_X7_parting
    apply zL_of; rw [e_X7_parting_0, s_twoC (by omega) hI, Option.bind_some]
    dsimp only
    rw [zbi_t ⟨hx, hy, hxy⟩, if_neg zn10, s_isEitherC (by omega), Option.bind_some]
    dsimp only
    rw [zbi_t hz, if_neg zn10, s_isOn (by omega) (Or.inl rfl) hI.wf hI.sh (by omega), Option.bind_some]
    dsimp only
    rw [zbi_t ta, if_neg zn10, s_isOn (by omega) (Or.inl rfl) hI.wf hI.sh (by omega), Option.bind_some]
    dsimp only
    rw [zbi_t te, if_neg zn10, s_sideC (by omega) (Or.inl rfl) hI.wf hI.sh hI.fi (by omega) (by omega), Option.bind_some, hC]
    dsimp only
    rw [s_tearsOf (by omega) (Or.inl rfl) hI.wf hI.sh (by omega), Option.bind_some]
    exact zPo_ite rfl
  · apply c_X8_parting
    apply zL_of; rw [e_X8_parting_0, s_isCellM (by omega) hI, Option.bind_some]
    dsimp only
    rw [zbi_t hx, if_neg zn10, s_isCellM (by omega) hI, Option.bind_some]
    dsimp only
    rw [zbi_t hy, if_neg zn10, if_neg hxy, s_in (by omega), Option.bind_some, zbi_eq zgm2]
    dsimp only
    rw [zbi_t hz, if_neg zn10, s_on (by omega) hI.wf hI.md, Option.bind_some]
    dsimp only
    rw [s_has (by omega) (by omega) (by omega), Option.bind_some]
    dsimp only
    rw [zbi_t ta, if_neg zn10, s_on (by omega) hI.wf hI.md, Option.bind_some]
    dsimp only
    rw [s_has (by omega) (by omega) (by omega), Option.bind_some]
    dsimp only
    rw [zbi_t te, if_neg zn10]
    apply zPo_go
    have h1 := l_partM (d := d) (by omega) hI.wf hI.md (show a < 10 by omega) (show e < 10 by omega) z 1 (Nat.two_pow_pos _)
    rw [hMM] at h1
    have e0 : (List.range 1).foldl (zsM S a e) (0, 99) = (0, 99) := by
      show zsM S a e (0, 99) 0 = (0, 99)
      unfold zsM zsd
      rw [Nat.zero_testBit]; rfl
    rw [e0] at h1
    exact h1
end ZX39

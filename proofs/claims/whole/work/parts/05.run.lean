/-! Runs of operations, methods, calls of methods: what the small machine answers is what the machine does -/
def zlkB (pc : Nat) : List (Int × Int) → List (Int32 × Nat) → Bool
  | [], [] => true
  | (a, o) :: r, (v, t) :: r' => decide (a = v.toInt) && decide ((pc : Int) + o = (t : Int)) && zlkB pc r r'
  | _, _ => false
theorem zlk_spec {k : Nat → Option ZO} {x : Int32} {d pc : Nat} {o : ZO} {dflt : Int} (hd : (pc : Int) + dflt = (d : Int)) : ∀ {os : List (Int × Int)} {ps : List (Int32 × Nat)}, zlkB pc os ps = true → zsw k x d ps = some o → ∃ t : Nat, (pc : Int) + Op.lookupswitch.offset os dflt x.toInt = (t : Int) ∧ k t = some o
  | [], [], _, h => ⟨d, hd, h⟩
  | (a, f) :: r, (v, t) :: r', hz, h => by
    simp only [zlkB, Bool.and_eq_true, decide_eq_true_eq] at hz
    obtain ⟨⟨h1, h2⟩, h3⟩ := hz
    rw [Op.lookupswitch.offset_cons]
    unfold zsw at h
    by_cases e : x = v
    · rw [if_pos e] at h
      rw [if_pos (by rw [h1, e])]
      exact ⟨t, h2, h⟩
    · rw [if_neg e] at h
      rw [if_neg (by rw [h1]; exact fun q => e (Int32.toInt_inj.mp q).symm)]
      exact zlk_spec hd h3 h
theorem zk_lookup {mt : Nat → Option ZT} {cc : ByteArray} {own : String} {rk pc : Nat} {dflt : Int} {os : Array (Int × Int)} {ps : List (Int32 × Nat)} {dt len : Nat} (ht : (pc : Int) + dflt = (dt : Int)) (hp : (os.toList.zip (os.toList.drop 1)).all (fun (a, next) => a.1 < next.1) = true) (hz : zlkB pc os.toList ps = true) (hd : decode cc pc = .ok (.lookupswitch dflt os, len)) : ZOK mt cc own rk pc (zo_sw ps dt) := by
  intro p l e R s m args below meth c nL D dA ad A cells slots Q d E hC hE k lo st M o ho hk hr H locs ls hP hS hL hlen
  obtain ⟨hx, hb, hml, hown, hts, hnl, hK, hAd, hSt, hR⟩ := hC
  unfold zo_sw at ho
  split at ho
  · rename_i x r
    obtain ⟨t, h1, h2⟩ := zlk_spec ht hz ho
    exact lv_lookup hx hb hd hp rfl h1 (hk _ _ _ _ h2 H locs ls hP hS hL hlen)
  · cases ho
def zsfx : List (Nat × ZP) → Nat → Option (ZP × List (Nat × ZP))
  | [], _ => none
  | (a, op) :: r, pc => match Nat.beq a pc with
    | true => some (op, r)
    | false => zsfx r pc
def zfd (tb : List (Nat × ZP)) (cur : List (Nat × ZP)) (pc : Nat) : Option (ZP × List (Nat × ZP)) := match cur with
  | [] => zsfx tb pc
  | (a, op) :: r => match Nat.beq a pc with
    | true => some (op, r)
    | false => zsfx tb pc
def zcut : List (Nat × List Bool) → Nat → Option (List Bool)
  | [], _ => none
  | (a, ms) :: r, pc => match Nat.beq a pc with
    | true => some ms
    | false => zcut r pc
def zmask : List Bool → ZL → ZL
  | true :: bs, v :: vs => v :: zmask bs vs
  | false :: bs, _ :: vs => none :: zmask bs vs
  | _, vs => vs
theorem zmask_len : ∀ (bs : List Bool) (lo : ZL), (zmask bs lo).length = lo.length
  | true :: bs, v :: vs => by simp [zmask, zmask_len bs vs]
  | false :: bs, _ :: vs => by simp [zmask, zmask_len bs vs]
  | [], vs => by simp [zmask]
  | true :: _, [] => by simp [zmask]
  | false :: _, [] => by simp [zmask]
theorem zmask_get : ∀ (bs : List Bool) (lo : ZL) (i : Nat) (v : Value), (zmask bs lo)[i]? = some (some v) → lo[i]? = some (some v)
  | true :: bs, w :: vs, i, v, h => by
    cases i with
    | zero => simpa [zmask] using h
    | succ i => simp only [zmask, List.getElem?_cons_succ] at h ⊢; exact zmask_get bs vs i v h
  | false :: bs, w :: vs, i, v, h => by
    cases i with
    | zero => simp [zmask] at h
    | succ i => simp only [zmask, List.getElem?_cons_succ] at h ⊢; exact zmask_get bs vs i v h
  | [], vs, i, v, h => by simpa [zmask] using h
  | true :: _, [], i, v, h => by simp [zmask] at h
  | false :: _, [], i, v, h => by simp [zmask] at h
theorem zmask_LH {ad : Nat → Nat} {ls : Array Slot} {nL : Nat} {lo : ZL} (bs : List Bool) (h : zLH ad ls nL lo) : zLH ad ls nL (zmask bs lo) := ⟨h.1, h.2.1, fun i v hi => h.2.2 i v (zmask_get bs lo i v hi)⟩
def zrun (E : ZE) (tb : List (Nat × ZP)) (cu : List (Nat × List Bool)) : Nat → List (Nat × ZP) → ZK
  | 0, _ => fun _ _ _ _ => none
  | f + 1, cur => fun pc lo st M => match zfd tb cur pc with
    | none => none
    | some q => q.1 E (fun pc' lo' st' M' => match zcut cu pc' with
      | some ms => some (.inr (pc', zmask ms lo', st', M'))
      | none => zrun E tb cu f q.2 pc' lo' st' M') lo st M
def zloop (E : ZE) (tb : List (Nat × ZP)) (cu : List (Nat × List Bool)) : Nat → Nat → ZL → List Value → ZM → Option ZR
  | 0, _, _, _, _ => none
  | n + 1, pc, lo, st, M => match zrun E tb cu 2000 [] pc lo st M with
    | some (.inl r) => some r
    | some (.inr q) => zloop E tb cu n q.1 q.2.1 q.2.2.1 q.2.2.2
    | none => none
theorem zloop_mono {E : ZE} {tb : List (Nat × ZP)} {cu : List (Nat × List Bool)} {r : ZR} : ∀ {n k : Nat} {pc : Nat} {lo : ZL} {st : List Value} {M : ZM}, n ≤ k → zloop E tb cu n pc lo st M = some r → zloop E tb cu k pc lo st M = some r
  | 0, _, _, _, _, _, _, h => by cases h
  | n + 1, 0, _, _, _, _, hk, _ => by omega
  | n + 1, k + 1, pc, lo, st, M, hk, h => by
    unfold zloop at h ⊢
    split at h
    · exact h
    · exact zloop_mono (by omega) h
    · cases h
theorem zsfx_ok {P : Nat → ZP → Prop} {pc : Nat} {q : ZP × List (Nat × ZP)} : ∀ {tb : List (Nat × ZP)}, (∀ e ∈ tb, P e.1 e.2) → zsfx tb pc = some q → P pc q.1 ∧ ∀ e ∈ q.2, P e.1 e.2
  | [], _, h => by cases h
  | (a, op1) :: r, hT, h => by
    unfold zsfx at h
    split at h
    · rename_i e
      have := Nat.eq_of_beq_eq_true e
      subst this
      cases h
      exact ⟨hT _ List.mem_cons_self, fun e he => hT e (List.mem_cons_of_mem _ he)⟩
    · exact zsfx_ok (fun e he => hT e (List.mem_cons_of_mem _ he)) h
theorem zfd_ok {P : Nat → ZP → Prop} {pc : Nat} {q : ZP × List (Nat × ZP)} {tb cur : List (Nat × ZP)} (hT : ∀ e ∈ tb, P e.1 e.2) (hc : ∀ e ∈ cur, P e.1 e.2) (h : zfd tb cur pc = some q) : P pc q.1 ∧ ∀ e ∈ q.2, P e.1 e.2 := by
  unfold zfd at h
  split at h
  · exact zsfx_ok hT h
  · rename_i a op r
    split at h
    · rename_i e
      have := Nat.eq_of_beq_eq_true e
      subst this
      cases h
      exact ⟨hc _ List.mem_cons_self, fun e he => hc e (List.mem_cons_of_mem _ he)⟩
    · exact zsfx_ok hT h
section ZS
variable {mt : Nat → Option ZT} {cc : ByteArray} {own : String} {rk : Nat} {p : Program} {l : Launch} {e : Env} {R : Room} {s : State} {m : MethodId} {args : Array Value} {below : List Frame} {meth : Method} {c : Code} {nL : Nat} {D : va_G} {dA : Nat → ClassId} {ad : Nat → Nat} {A : Nat → Prop} {cells slots : Nat} {Q : State → Prop} {d : Nat} {E : ZE} {tb : List (Nat × ZP)} {cu : List (Nat × List Bool)}
theorem zrun_ok (hC : zCx p R s m args c cc own nL D dA ad A d cells slots) (hE : zES mt l D dA ad A d E) (hT : ∀ q ∈ tb, ZOK mt cc own rk q.1 q.2) {o : ZO} (hq : ∀ q, o = .inr q → zV p l e R s m args below meth c nL D dA ad A cells slots Q q.1 q.2.1 q.2.2.1 q.2.2.2) (hr : ∀ r, o = .inl r → zRr p l e R s m args below meth c D dA ad A cells slots Q rk cc r) :
    ∀ (f : Nat) (cur : List (Nat × ZP)) (pc : Nat) (lo : ZL) (st : List Value) (M : ZM), (∀ q ∈ cur, ZOK mt cc own rk q.1 q.2) → zrun E tb cu f cur pc lo st M = some o → zV p l e R s m args below meth c nL D dA ad A cells slots Q pc lo st M := by
  intro f
  induction f with
  | zero => intro cur pc lo st M hcur h; cases h
  | succ f ih =>
    intro cur pc lo st M hcur h
    unfold zrun at h
    split at h
    · cases h
    · rename_i q1 hop
      obtain ⟨hz1, hz2⟩ := zfd_ok hT hcur hop
      refine hz1 p l e R s m args below meth c nL D dA ad A cells slots Q d E hC hE _ lo st M o h ?_ hr
      intro pc' lo' st' M' h'
      split at h'
      · rename_i ms hms
        have h2 := Option.some.inj h'
        intro H locs ls hP hS hL hlen
        exact hq _ h2.symm H locs ls hP hS (zmask_LH ms hL) (by rw [← hlen]; exact zmask_len ms lo')
      · exact ih q1.2 pc' lo' st' M' hz2 h'
theorem zloop_ok (hC : zCx p R s m args c cc own nL D dA ad A d cells slots) (hE : zES mt l D dA ad A d E) (hT : ∀ q ∈ tb, ZOK mt cc own rk q.1 q.2) {r : ZR} (hr : zRr p l e R s m args below meth c D dA ad A cells slots Q rk cc r) :
    ∀ (n pc : Nat) (lo : ZL) (st : List Value) (M : ZM), zloop E tb cu n pc lo st M = some r → zV p l e R s m args below meth c nL D dA ad A cells slots Q pc lo st M := by
  intro n
  induction n with
  | zero => intro pc lo st M h; cases h
  | succ n ih =>
    intro pc lo st M h
    unfold zloop at h
    split at h
    · rename_i r1 h1
      cases h
      exact zrun_ok hC hE hT (fun q hq => by cases hq) (fun r2 h2 => by cases h2; exact hr) 2000 [] pc lo st M (fun q hq => absurd hq List.not_mem_nil) h1
    · rename_i q h1
      exact zrun_ok hC hE hT (fun q2 hq => by cases hq; exact ih _ _ _ _ h) (fun r2 h2 => by cases h2) 2000 [] pc lo st M (fun q hq => absurd hq List.not_mem_nil) h1
    · cases h
end ZS
def zargs : List Value → ZL
  | [] => []
  | v :: r => if v.category = 2 then some v :: none :: zargs r else some v :: zargs r
def zent (as : List Value) (nL : Nat) : ZL := zargs as ++ List.replicate (nL - (zargs as).length) none
theorem zargs_len (ad : Nat → Nat) : ∀ as : List Value, (lg_sl (as.map (ztr ad))).length = (zargs as).length
  | [] => rfl
  | v :: r => by
    have ih := zargs_len ad r
    unfold lg_sl at ih ⊢
    rw [List.map_cons, List.flatMap_cons, List.length_append, ih, ztr_cat]
    simp only [zargs]
    split
    · simp; omega
    · simp; omega
theorem zargs_at (ad : Nat → Nat) : ∀ (as : List Value) (k i : Nat) (v : Value), (zargs as)[i]? = some (some v) → (k + i, ztr ad v) ∈ lv_args k (as.map (ztr ad))
  | [], k, i, v, h => by simp [zargs] at h
  | w :: r, k, i, v, h => by
    rw [List.map_cons]
    unfold lv_args
    unfold zargs at h
    rw [ztr_cat]
    by_cases hc : w.category = 2
    · rw [if_pos hc] at h ⊢
      match i, h with
      | 0, h =>
        simp only [List.getElem?_cons_zero, Option.some.injEq] at h
        subst h
        exact List.mem_cons_self
      | 1, h => simp at h
      | i + 2, h =>
        simp only [List.getElem?_cons_succ] at h
        have := zargs_at ad r (k + 2) i v h
        rw [show k + (i + 2) = k + 2 + i by omega]
        exact List.mem_cons_of_mem _ this
    · rw [if_neg hc] at h ⊢
      match i, h with
      | 0, h =>
        simp only [List.getElem?_cons_zero, Option.some.injEq] at h
        subst h
        exact List.mem_cons_self
      | i + 1, h =>
        simp only [List.getElem?_cons_succ] at h
        have := zargs_at ad r (k + 1) i v h
        rw [show k + (i + 1) = k + 1 + i by omega]
        exact List.mem_cons_of_mem _ this
theorem zent_LH (ad : Nat → Nat) {as : List Value} {nL : Nat} (h : (zargs as).length ≤ nL) : zLH ad ((lg_sl (as.map (ztr ad)) ++ List.replicate (nL - (lg_sl (as.map (ztr ad))).length) Slot.unset).toArray) nL (zent as nL) := by
  have h1 := lv_entry (as.map (ztr ad)) (n := nL) (by rw [zargs_len]; exact h)
  refine ⟨h1.1, h1.2.1, fun i v hi => ?_⟩
  have h2 : (zargs as)[i]? = some (some v) := by
    unfold zent at hi
    rw [List.getElem?_append] at hi
    split at hi
    · exact hi
    · rw [List.getElem?_replicate] at hi
      split at hi <;> cases hi
  have h3 := zargs_at ad as 0 i v h2
  rw [Nat.zero_add] at h3
  exact h1.2.2 _ h3
theorem zent_len {as : List Value} {nL : Nat} (h : (zargs as).length ≤ nL) : (zent as nL).length = nL := by
  simp only [zent, List.length_append, List.length_replicate]
  omega
abbrev ZB : Type := Nat × Nat × (List (Nat × ZP)) × List (Nat × List Bool)
/-- a call of a body: number of locals, kind of answer, operations, cuts -/
noncomputable def zcall (E : ZE) (b : ZB) (as : List Value) (M : ZM) : Option ZR :=
  @dite (Option ZR) ((zargs as).length ≤ b.1 ∧ ∃ (n : Nat) (r : ZR), zloop E b.2.2.1 b.2.2.2 n 0 (zent as b.1) [] M = some r) (Classical.propDecidable _) (fun h => some (Classical.choose (Classical.choose_spec h.2))) (fun _ => none)
theorem zcall_eq {E : ZE} {b : ZB} {as : List Value} {M : ZM} {r : ZR} (n : Nat) (hl : (zargs as).length ≤ b.1) (h : zloop E b.2.2.1 b.2.2.2 n 0 (zent as b.1) [] M = some r) : zcall E b as M = some r := by
  have hex : (zargs as).length ≤ b.1 ∧ ∃ (n : Nat) (r : ZR), zloop E b.2.2.1 b.2.2.2 n 0 (zent as b.1) [] M = some r := ⟨hl, n, r, h⟩
  unfold zcall
  rw [dif_pos hex]
  have h2 := Classical.choose_spec (Classical.choose_spec hex.2)
  have h3 := zloop_mono (Nat.le_max_left n (Classical.choose hex.2)) h
  have h4 := zloop_mono (Nat.le_max_right n (Classical.choose hex.2)) h2
  rw [h3] at h4
  exact h4.symm
theorem zcall_some {E : ZE} {b : ZB} {as : List Value} {M : ZM} {r : ZR} (h : zcall E b as M = some r) : (zargs as).length ≤ b.1 ∧ ∃ n, zloop E b.2.2.1 b.2.2.2 n 0 (zent as b.1) [] M = some r := by
  unfold zcall at h
  split at h
  · rename_i hex
    cases h
    exact ⟨hex.1, Classical.choose hex.2, Classical.choose_spec (Classical.choose_spec hex.2)⟩
  · cases h
def zci (o : Option ZR) : Option (Int32 × ZM) := match o with
  | some (some (.int r), M) => some (r, M)
  | _ => none
def zcl (o : Option ZR) : Option (Int64 × ZM) := match o with
  | some (some (.long r), M) => some (r, M)
  | _ => none
def zcv (o : Option ZR) : Option ZM := match o with
  | some (none, M) => some M
  | _ => none
theorem zci_some {o : Option ZR} {r : Int32} {M : ZM} (h : zci o = some (r, M)) : o = some (some (.int r), M) := by
  unfold zci at h
  split at h
  · cases h; rfl
  · cases h
theorem zcl_some {o : Option ZR} {r : Int64} {M : ZM} (h : zcl o = some (r, M)) : o = some (some (.long r), M) := by
  unfold zcl at h
  split at h
  · cases h; rfl
  · cases h
theorem zcv_some {o : Option ZR} {M : ZM} (h : zcv o = some M) : o = some (none, M) := by
  unfold zcv at h
  split at h
  · cases h; rfl
  · cases h
noncomputable def zenv (bt : Nat → Option ZB) : Nat → ZE
  | 0 => (fun _ _ _ => none, fun _ _ _ => none, fun _ _ _ => none)
  | d + 1 => (fun y as M => (bt y).bind fun b => zci (zcall (zenv bt d) b as M), fun y as M => (bt y).bind fun b => zcl (zcall (zenv bt d) b as M), fun y as M => (bt y).bind fun b => zcv (zcall (zenv bt d) b as M))
/-- the kind of an answer -/
def zrk (rk : Nat) (ret : Option FieldType) : Prop := (rk = 0 ∧ ret = none) ∨ (rk = 1 ∧ ret = some .int) ∨ (rk = 2 ∧ ret = some .long) ∨ (rk = 3 ∧ ret = some .boolean)
/-- a method's body is right -/
def zBok (mt : Nat → Option ZT) (q : ZT) (b : ZB) : Prop := b.1 = q.2.2.1 ∧ zrk b.2.1 q.2.2.2 ∧ plainName q.1.cls = true ∧ ∀ e ∈ b.2.2.1, ZOK mt q.2.1 q.1.cls b.2.1 e.1 e.2
section ZN
variable {mt : Nat → Option ZT} {bt : Nat → Option ZB} {l : Launch} {D : va_G} {dA : Nat → ClassId} {ad : Nat → Nat} {A : Nat → Prop}
theorem zmet (hAd : zAd ad A) {d : Nat} {E : ZE} (hE : zES mt l D dA ad A d E) {q : ZT} {b : ZB} (hB : zBok mt q b) {as : List Value} {M : ZM} {r : ZR} (hc : zcall E b as M = some r) {Qc : Array Value → State → Outcome → State → Prop}
    (hQ : ∀ (a : Array Value) (s t : State) (H : Heap) (locs : List Loc), t.heap = H → va_P D vwCl (zwd dA ad r.2) H → va_S A s.heap H locs → Qc a s (.returned (r.1.map (ztr ad))) t) : Met l q.1 (zws q) (zrm (d + 1)) (zPc D dA ad A as M) Qc 0 0 A := by
  obtain ⟨hb1, hrk, hpl, hT⟩ := hB
  obtain ⟨hl, n, hn⟩ := zcall_some hc
  refine Met.ofW (cc := q.2.1) (maxL := q.2.2.1) (ret := q.2.2.2) hpl rfl ?_
  intro p e s m args below meth c s₁ B hml hv
  obtain ⟨rfl, hP, hK, hN, hSt⟩ := hv
  have hts0 := atoms_spec (ws := zws q) B.pre
  have hts : ∀ w ∈ zTB, w.before ((as.map (ztr ad)).toArray) s = true := fun w hw => hts0 w (List.mem_cons_of_mem _ hw)
  have hown : s.vm.findClass q.1.cls = some m.cls := findClass_of_methodNamed B.named
  have hC : zCx p (headSpec (zws q) (zrm (d + 1))).room s m ((as.map (ztr ad)).toArray) c q.2.1 q.1.cls q.2.2.1 D dA ad A d 0 0 := ⟨B.exec, B.bytes, hml, hown, hts, hN, hK, hAd, hSt, Nat.le_refl _, Nat.le_refl _, Nat.le_refl _, Nat.le_refl _⟩
  have hR : zRr p l e (headSpec (zws q) (zrm (d + 1))).room s m ((as.map (ztr ad)).toArray) below meth c D dA ad A 0 0 (MQ below Qc ((as.map (ztr ad)).toArray) s 0 0 A) b.2.1 q.2.1 r := by
    intro pc H locs ls hP1 hS1 hRT
    have hq1 : ∀ t : State, t.heap = H → Qc ((as.map (ztr ad)).toArray) s (.returned (r.1.map (ztr ad))) t := fun t ht => hQ _ s t H locs ht hP1 hS1
    have hret := B.returns
    rcases hRT with ⟨h1, h2, h3⟩ | ⟨h1, ⟨x, h2⟩, h3⟩ | ⟨h1, ⟨x, h2⟩, h3⟩ | ⟨h1, ⟨x, h2, h4⟩, h3⟩
    · have hr2 : q.2.2.2 = none := by rcases hrk with ⟨_, a⟩ | ⟨a, _⟩ | ⟨a, _⟩ | ⟨a, _⟩ <;> first | exact a | omega
      rw [h2] at hq1 ⊢
      exact W.vret B.exec B.bytes (hret.trans hr2) (fun t ht _ => hq1 t ht) hS1.2.2 h3 B.notSynchronized
    · have hr2 : q.2.2.2 = some .int := by rcases hrk with ⟨a, _⟩ | ⟨_, a⟩ | ⟨a, _⟩ | ⟨a, _⟩ <;> first | exact a | omega
      rw [h2] at hq1 ⊢
      exact W.iret B.exec B.bytes (hret.trans hr2) (fun t ht _ => hq1 t ht) hS1.2.2 h3 B.notSynchronized
    · have hr2 : q.2.2.2 = some .long := by rcases hrk with ⟨a, _⟩ | ⟨a, _⟩ | ⟨_, a⟩ | ⟨a, _⟩ <;> first | exact a | omega
      rw [h2] at hq1 ⊢
      exact W.lret B.exec B.bytes (hret.trans hr2) (fun t ht _ => hq1 t ht) hS1.2.2 h3 B.notSynchronized
    · have hr2 : q.2.2.2 = some .boolean := by rcases hrk with ⟨a, _⟩ | ⟨a, _⟩ | ⟨a, _⟩ | ⟨_, a⟩ <;> first | exact a | omega
      rw [h2] at hq1 ⊢
      exact W.zret B.exec B.bytes (hret.trans hr2) (zb01_nar h4).1 (fun t ht _ => hq1 t ht) hS1.2.2 h3 B.notSynchronized
  have hZ := zloop_ok (cu := b.2.2.2) hC hE hT hR n 0 (zent as b.1) [] M hn
  rw [lg_entry_eq]
  rw [hb1] at hl hZ
  exact hZ s.heap [] _ hP va_S.rf (zent_LH ad hl) (zent_len hl)
theorem zenv_ok (hAd : zAd ad A) (hB : ∀ (y : Nat) (q : ZT), mt y = some q → ∀ b, bt y = some b → zBok mt q b) : ∀ d, zES mt l D dA ad A d (zenv bt d)
  | 0 => fun y q hq as M => ⟨fun r M' h => (by cases h), fun r M' h => (by cases h), fun M' h => (by cases h)⟩
  | d + 1 => by
    have ih := zenv_ok hAd hB d
    intro y q hq as M
    refine ⟨fun r M' h => ?_, fun r M' h => ?_, fun M' h => ?_⟩
    · obtain ⟨b, hb, h1⟩ := Option.bind_eq_some_iff.mp h
      exact zmet (Qc := zQi D dA ad A r M') hAd ih (hB y q hq b hb) (zci_some h1) (fun a s t H locs ht hP hS => ⟨⟨r, (), rfl, rfl, by subst ht; exact hP⟩, hS.F ht⟩)
    · obtain ⟨b, hb, h1⟩ := Option.bind_eq_some_iff.mp h
      exact zmet (Qc := zQl D dA ad A r M') hAd ih (hB y q hq b hb) (zcl_some h1) (fun a s t H locs ht hP hS => ⟨⟨r, (), rfl, rfl, by subst ht; exact hP⟩, hS.F ht⟩)
    · obtain ⟨b, hb, h1⟩ := Option.bind_eq_some_iff.mp h
      exact zmet (Qc := zQv D dA ad A M') hAd ih (hB y q hq b hb) (zcv_some h1) (fun a s t H locs ht hP hS => ⟨⟨(), rfl, trivial, by subst ht; exact hP⟩, hS.F ht⟩)
end ZN

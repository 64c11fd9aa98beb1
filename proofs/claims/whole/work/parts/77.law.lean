/-! The law's own code: a step, the script's numbers, a case, the switch, the loop. -/
def zG (p : Program) (l : Launch) (e : Env) (s : State) (m : MethodId) (b : Nat) (below : List Frame) (meth : Method) (c : Code) (D : va_G) (dA : Nat → ClassId) (ad : Nat → Nat) (A : Nat → Prop) (pc : Nat) (lo : ZL) (st : List Value) (M : ZM) : Prop := zV p l e room_1 s m #[Value.ref b] below meth c 4 D dA ad A 83 6799 (lw_Z below #[Value.ref b] s) pc lo st M
def zlo (x : Int32) : ZL := [some (.ref 2000), some (.ref 0), some (.ref 66), some (.int x)]
def zlA1 (pc k : Nat) : Bool := (decide (decode code pc = .ok (.aload_n 0, 1)) && decide (decode code (pc + 1) = .ok (.iload_n 3, 1))) && (if k ≤ 5 then (decide (decode code (pc + 2) = .ok (.iconst (k : Int), 1)) && decide (decode code (pc + 3) = .ok (.iadd, 1))) && decide (decode code (pc + 4) = .ok (.iaload, 1)) else (decide (decode code (pc + 2) = .ok (.bipush (k : Int), 2)) && decide (decode code (pc + 4) = .ok (.iadd, 1))) && decide (decode code (pc + 5) = .ok (.iaload, 1)))
def zlN1 (pc k : Nat) : Nat := if k ≤ 5 then pc + 5 else pc + 6
def zlAs : Nat → List Nat → Bool
  | _, [] => true
  | pc, k :: ks => zlA1 pc k && zlAs (zlN1 pc k) ks
def zlEnd : Nat → List Nat → Nat
  | pc, [] => pc
  | pc, k :: ks => zlEnd (zlN1 pc k) ks
theorem zk7a : ∀ k : Nat, k < 8 → Int32.ofInt (k : Int) = nI k := by decide +kernel
theorem zk7b : ∀ k : Nat, k < 8 → (Int8.ofInt (k : Int)).toInt32 = nI k := by decide +kernel
theorem zcvi_eval {ci y n nx b : Nat} {E : ZE} {k : ZK} {lo : ZL} {M M' : ZM} {r : Int32} {args rest : List Value} (hn : args.length = n) (hz : zis b ci = true) (hs : (rest.map fun v => v.category).sum ≤ 8) (he : E.1 y (.ref b :: args) M = some (r, M')) : zo_cvi ci y n nx E k lo (args.reverse ++ .ref b :: rest) M = k nx lo (.int r :: rest) M' := by
  have hl : args.reverse.length = n := by rw [List.length_reverse, hn]
  have h1 : (args.reverse ++ Value.ref b :: rest).drop n = .ref b :: rest := List.drop_left' hl
  have h2 : (args.reverse ++ Value.ref b :: rest).take n = args.reverse := List.take_left' hl
  have h3 : n ≤ (args.reverse ++ Value.ref b :: rest).length := by rw [List.length_append, hl]; omega
  unfold zo_cvi
  rw [h1]
  show zck (zis b ci && (decide (n ≤ (args.reverse ++ Value.ref b :: rest).length) && decide ((rest.map fun v => v.category).sum ≤ 8))) ((E.1 y (.ref b :: ((args.reverse ++ Value.ref b :: rest).take n).reverse) M).bind fun q => k nx lo (.int q.1 :: rest) q.2) = _
  rw [h2, List.reverse_reverse, he, hz, decide_eq_true h3, decide_eq_true hs]
  rfl
theorem zcvl_eval {ci y n nx b : Nat} {E : ZE} {k : ZK} {lo : ZL} {M M' : ZM} {r : Int64} {args rest : List Value} (hn : args.length = n) (hz : zis b ci = true) (hs : (rest.map fun v => v.category).sum ≤ 8) (he : E.2.1 y (.ref b :: args) M = some (r, M')) : zo_cvl ci y n nx E k lo (args.reverse ++ .ref b :: rest) M = k nx lo (.long r :: rest) M' := by
  have hl : args.reverse.length = n := by rw [List.length_reverse, hn]
  have h1 : (args.reverse ++ Value.ref b :: rest).drop n = .ref b :: rest := List.drop_left' hl
  have h2 : (args.reverse ++ Value.ref b :: rest).take n = args.reverse := List.take_left' hl
  have h3 : n ≤ (args.reverse ++ Value.ref b :: rest).length := by rw [List.length_append, hl]; omega
  unfold zo_cvl
  rw [h1]
  show zck (zis b ci && (decide (n ≤ (args.reverse ++ Value.ref b :: rest).length) && decide ((rest.map fun v => v.category).sum ≤ 8))) ((E.2.1 y (.ref b :: ((args.reverse ++ Value.ref b :: rest).take n).reverse) M).bind fun q => k nx lo (.long q.1 :: rest) q.2) = _
  rw [h2, List.reverse_reverse, he, hz, decide_eq_true h3, decide_eq_true hs]
  rfl
theorem zsw_any {k : Nat → Option ZO} {x : Int32} {d : Nat} : ∀ ps : List (Int32 × Nat), ∃ t, (t = d ∨ t ∈ ps.map Prod.snd) ∧ zsw k x d ps = k t
  | [] => ⟨d, Or.inl rfl, rfl⟩
  | (v, t) :: r => by
    by_cases h : x = v
    · exact ⟨t, Or.inr List.mem_cons_self, if_pos h⟩
    · obtain ⟨t', h1, h2⟩ := zsw_any r
      exact ⟨t', h1.elim Or.inl (fun h3 => Or.inr (List.mem_cons_of_mem _ h3)), (if_neg h).trans h2⟩
section ZLW
variable {p : Program} {l : Launch} {e : Env} {s : State} {m : MethodId} {b L : Nat} {xs : Nat → Int32} {below : List Frame} {meth : Method} {c : Code} {D : va_G} {dA : Nat → ClassId} {ad : Nat → Nat} {A : Nat → Prop} {pc : Nat} {lo : ZL} {st : List Value} {M : ZM} {x : Int32}
theorem zl_step (hC : zCx p room_1 s m #[Value.ref b] c code RL 4 D dA ad A 12 83 6799) (hE : zES zmt l D dA ad A 12 (zenv zbt 12)) {op : ZP} (h : ZOK zmt code RL 3 pc op) {pc' : Nat} {lo' : ZL} {st' : List Value} {M' : ZM} (he : op (zenv zbt 12) (fun a b c d => some (.inr (a, b, c, d))) lo st M = some (.inr (pc', lo', st', M'))) (kk : zG p l e s m b below meth c D dA ad A pc' lo' st' M') : zG p l e s m b below meth c D dA ad A pc lo st M :=
  h p l e room_1 s m #[Value.ref b] below meth c 4 D dA ad A 83 6799 _ 12 (zenv zbt 12) hC hE _ lo st M _ he (fun a b c d hh => by cases hh; exact kk) (fun r hr => by cases hr)
theorem zl_arg (hC : zCx p room_1 s m #[Value.ref b] c code RL 4 D dA ad A 12 83 6799) (hX : va_X b L xs s s.heap) (hbl : b < s.heap.size) (hbA : ¬ A b) (had : ad 2000 = b) {k : Nat} (hd : zlA1 pc k = true) (hk : k < 8) (hin : vp_in (x + nI k) L) (kk : zG p l e s m b below meth c D dA ad A (zlN1 pc k) (zlo x) (.int (xs (x + nI k).toNatClampNeg) :: st) M) : zG p l e s m b below meth c D dA ad A pc (zlo x) st M := by
  intro H locs ls hP hS hL hlen
  have hx := hC.1
  have hb := hC.2.1
  have h0 : ls[0]? = some (.val (.ref b)) := by
    rw [← had]
    exact hL.2.2 0 (.ref 2000) rfl
  have h3 : ls[3]? = some (.val (.int x)) := hL.2.2 3 (.int x) rfl
  unfold zlA1 at hd
  unfold zlN1 at kk
  by_cases h5 : k ≤ 5
  · rw [if_pos h5] at hd kk
    simp only [Bool.and_eq_true, decide_eq_true_eq] at hd
    obtain ⟨⟨d0, d1⟩, ⟨d2, d3⟩, d4⟩ := hd
    refine lv_aload_n hx hb d0 rfl h0 (lv_iload_n hx hb d1 rfl h3 (lv_iconst hx hb d2 (zk7a k hk) (lv_iadd hx hb d3 (va_sld hx hb hX hbl hbA hS hin d4 ?_))))
    exact kk H locs ls hP hS hL hlen
  · rw [if_neg h5] at hd kk
    simp only [Bool.and_eq_true, decide_eq_true_eq] at hd
    obtain ⟨⟨d0, d1⟩, ⟨d2, d3⟩, d4⟩ := hd
    refine lv_aload_n hx hb d0 rfl h0 (lv_iload_n hx hb d1 rfl h3 (lv_bipush hx hb d2 (zk7b k hk) (lv_iadd hx hb d3 (va_sld hx hb hX hbl hbA hS hin d4 ?_))))
    exact kk H locs ls hP hS hL hlen
def zax (xs : Nat → Int32) (x : Int32) (ks : List Nat) : List Value := ks.map (fun k => .int (xs (x + nI k).toNatClampNeg))
theorem zl_args (hC : zCx p room_1 s m #[Value.ref b] c code RL 4 D dA ad A 12 83 6799) (hX : va_X b L xs s s.heap) (hbl : b < s.heap.size) (hbA : ¬ A b) (had : ad 2000 = b) (hin : ∀ k, k < 8 → vp_in (x + nI k) L) : ∀ (ks : List Nat) (pc : Nat) (st : List Value), zlAs pc ks = true → (∀ k ∈ ks, k < 8) → zG p l e s m b below meth c D dA ad A (zlEnd pc ks) (zlo x) ((zax xs x ks).reverse ++ st) M → zG p l e s m b below meth c D dA ad A pc (zlo x) st M := by
  intro ks
  induction ks with
  | nil => exact fun pc st _ _ kk => kk
  | cons k ks ih =>
    intro pc st hd hk kk
    have hd2 := Bool.and_eq_true_iff.mp (show (zlA1 pc k && zlAs (zlN1 pc k) ks) = true from hd)
    refine zl_arg hC hX hbl hbA had hd2.1 (hk k List.mem_cons_self) (hin k (hk k List.mem_cons_self)) ?_
    refine ih (zlN1 pc k) _ hd2.2 (fun j hj => hk j (List.mem_cons_of_mem _ hj)) ?_
    have e1 : (zax xs x (k :: ks)).reverse ++ st = (zax xs x ks).reverse ++ (.int (xs (x + nI k).toNatClampNeg) :: st) := by
      simp [zax]
    rw [← e1]
    exact kk
theorem zl_case (hC : zCx p room_1 s m #[Value.ref b] c code RL 4 D dA ad A 12 83 6799) (hE : zES zmt l D dA ad A 12 (zenv zbt 12)) (hX : va_X b L xs s s.heap) (hbl : b < s.heap.size) (hbA : ¬ A b) (had : ad 2000 = b) (hin : ∀ k, k < 8 → vp_in (x + nI k) L) (ks : List Nat) (hks : ∀ k ∈ ks, k < 8) (y1 y2 pc pc1 pc2 : Nat) (d0 : decode code pc = .ok (.aload_n 1, 1)) (a1 : zlAs (pc + 1) ks = true) (p1 : zlEnd (pc + 1) ks = pc1) (c1 : ZOK zmt code RL 3 pc1 (zo_cvi 7 y1 ks.length (pc1 + 3))) (d1 : decode code (pc1 + 3) = .ok (.aload_n 2, 1)) (a2 : zlAs (pc1 + 4) ks = true) (p2 : zlEnd (pc1 + 4) ks = pc2) (c2 : ZOK zmt code RL 3 pc2 (zo_cvi 8 y2 ks.length (pc2 + 3))) {off : Int} (d2 : decode code (pc2 + 3) = .ok (.if_icmp .eq off, 3)) (ht : ((pc2 + 3 : Nat) : Int) + off = ((1455 : Nat) : Int)) (hal : zAl y1 y2 (zax xs x ks) M) (kk : ∀ S' M', zInv S' M' → zG p l e s m b below meth c D dA ad A 1455 (zlo x) [] M') : zG p l e s m b below meth c D dA ad A pc (zlo x) [] M := by
  obtain ⟨r, M1, M2, S', e1, e2, hI⟩ := hal 12 (Nat.le_refl _)
  have hn : (zax xs x ks).length = ks.length := List.length_map _
  refine zl_step hC hE (zk_aload_n (i := 1) rfl d0) (pc' := pc + 1) (st' := [.ref 0]) rfl ?_
  refine zl_args hC hX hbl hbA had hin ks (pc + 1) [.ref 0] a1 hks ?_
  rw [p1]
  refine zl_step hC hE c1 (zcvi_eval (rest := []) hn (by decide +kernel) (by decide) e1) ?_
  refine zl_step hC hE (zk_aload_n (i := 2) rfl d1) (pc' := pc1 + 4) (st' := [.ref 66, .int r]) rfl ?_
  refine zl_args hC hX hbl hbA had hin ks (pc1 + 4) [.ref 66, .int r] a2 hks ?_
  rw [p2]
  refine zl_step hC hE c2 (zcvi_eval (rest := [.int r]) hn (by decide +kernel) (Nat.le_of_ble_eq_true rfl) e2) ?_
  intro H locs ls hP hS hL hlen
  exact lv_icmp_eq (tgt := 1455) hC.1 hC.2.1 d2 ht (fun _ => kk S' M2 hI H locs ls hP hS hL hlen) (fun h => absurd rfl h)
theorem zl_caseL (hC : zCx p room_1 s m #[Value.ref b] c code RL 4 D dA ad A 12 83 6799) (hE : zES zmt l D dA ad A 12 (zenv zbt 12)) (hX : va_X b L xs s s.heap) (hbl : b < s.heap.size) (hbA : ¬ A b) (had : ad 2000 = b) (hin : ∀ k, k < 8 → vp_in (x + nI k) L) (ks : List Nat) (hks : ∀ k ∈ ks, k < 8) (y1 y2 pc pc1 pc2 : Nat) (d0 : decode code pc = .ok (.aload_n 1, 1)) (a1 : zlAs (pc + 1) ks = true) (p1 : zlEnd (pc + 1) ks = pc1) (c1 : ZOK zmt code RL 3 pc1 (zo_cvl 7 y1 ks.length (pc1 + 3))) (d1 : decode code (pc1 + 3) = .ok (.aload_n 2, 1)) (a2 : zlAs (pc1 + 4) ks = true) (p2 : zlEnd (pc1 + 4) ks = pc2) (c2 : ZOK zmt code RL 3 pc2 (zo_cvl 8 y2 ks.length (pc2 + 3))) (d2 : decode code (pc2 + 3) = .ok (.lcmp, 1)) {off : Int} (d3 : decode code (pc2 + 4) = .ok (.ifCond .eq off, 3)) (ht : ((pc2 + 4 : Nat) : Int) + off = ((1455 : Nat) : Int)) (hal : zAlL y1 y2 (zax xs x ks) M) (kk : ∀ S' M', zInv S' M' → zG p l e s m b below meth c D dA ad A 1455 (zlo x) [] M') : zG p l e s m b below meth c D dA ad A pc (zlo x) [] M := by
  obtain ⟨r, M1, M2, S', e1, e2, hI⟩ := hal 12 (Nat.le_refl _)
  have hn : (zax xs x ks).length = ks.length := List.length_map _
  refine zl_step hC hE (zk_aload_n (i := 1) rfl d0) (pc' := pc + 1) (st' := [.ref 0]) rfl ?_
  refine zl_args hC hX hbl hbA had hin ks (pc + 1) [.ref 0] a1 hks ?_
  rw [p1]
  refine zl_step hC hE c1 (zcvl_eval (rest := []) hn (by decide +kernel) (by decide) e1) ?_
  refine zl_step hC hE (zk_aload_n (i := 2) rfl d1) (pc' := pc1 + 4) (st' := [.ref 66, .long r]) rfl ?_
  refine zl_args hC hX hbl hbA had hin ks (pc1 + 4) [.ref 66, .long r] a2 hks ?_
  rw [p2]
  refine zl_step hC hE c2 (zcvl_eval (rest := [.long r]) hn (by decide +kernel) (Nat.le_of_ble_eq_true rfl) e2) ?_
  have hc0 : lg_cmp r r = 0 := by
    unfold lg_cmp
    simp
  refine zl_step hC hE (zk_lcmp d2) (pc' := pc2 + 4) (st' := [.int (lg_cmp r r)]) rfl ?_
  refine zl_step hC hE (zk_ifeq (t := 1455) ht d3) (pc' := 1455) (st' := []) (by rw [hc0]; rfl) ?_
  exact kk S' M2 hI
end ZLW

/-! The class's constructor. -/
theorem zw_cn0 : Cond.classLink RX7 36 RX0 ∈ zTB := zTB_mem 262 (by decide +kernel) rfl
theorem zw_in0 : Cond.instantiable RX0 5 ∈ zTB := zTB_mem 263 (by decide +kernel) rfl
theorem zw_iz0 : Cond.initialized RX0 ∈ zTB := zTB_mem 134 (by decide +kernel) rfl
theorem zw_mn0 : Cond.methodLinkNest RX7 38 yX0_init "StampSheets" ∈ zNL := zNL_mem 264 (by decide +kernel) rfl
theorem zw_co0 : Cond.code yX0_init cX0_init 1 none ∈ zTB := zTB_mem 266 (by decide +kernel) rfl
theorem zw_im0 : Cond.instanceMethod yX0_init ∈ zTB := zTB_mem 265 (by decide +kernel) rfl
theorem zw_cn1 : Cond.classLink RX7 50 RX1 ∈ zTB := zTB_mem 318 (by decide +kernel) rfl
theorem zw_in1 : Cond.instantiable RX1 6 ∈ zTB := zTB_mem 319 (by decide +kernel) rfl
theorem zw_iz1 : Cond.initialized RX1 ∈ zTB := zTB_mem 136 (by decide +kernel) rfl
theorem zw_mn1 : Cond.methodLinkNest RX7 52 yX1_init "StampSheets" ∈ zNL := zNL_mem 320 (by decide +kernel) rfl
theorem zw_co1 : Cond.code yX1_init cX1_init 1 none ∈ zTB := zTB_mem 322 (by decide +kernel) rfl
theorem zw_im1 : Cond.instanceMethod yX1_init ∈ zTB := zTB_mem 321 (by decide +kernel) rfl
theorem zw_cn2 : Cond.classLink RX7 43 RX2 ∈ zTB := zTB_mem 285 (by decide +kernel) rfl
theorem zw_in2 : Cond.instantiable RX2 8 ∈ zTB := zTB_mem 286 (by decide +kernel) rfl
theorem zw_iz2 : Cond.initialized RX2 ∈ zTB := zTB_mem 135 (by decide +kernel) rfl
theorem zw_mn2 : Cond.methodLinkNest RX7 45 yX2_init "StampSheets" ∈ zNL := zNL_mem 287 (by decide +kernel) rfl
theorem zw_co2 : Cond.code yX2_init cX2_init 1 none ∈ zTB := zTB_mem 289 (by decide +kernel) rfl
theorem zw_im2 : Cond.instanceMethod yX2_init ∈ zTB := zTB_mem 288 (by decide +kernel) rfl
theorem zw_cn3 : Cond.classLink RX7 15 RX3 ∈ zTB := zTB_mem 154 (by decide +kernel) rfl
theorem zw_in3 : Cond.instantiable RX3 7 ∈ zTB := zTB_mem 155 (by decide +kernel) rfl
theorem zw_iz3 : Cond.initialized RX3 ∈ zTB := zTB_mem 132 (by decide +kernel) rfl
theorem zw_mn3 : Cond.methodLinkNest RX7 17 yX3_init "StampSheets" ∈ zNL := zNL_mem 156 (by decide +kernel) rfl
theorem zw_co3 : Cond.code yX3_init cX3_init 1 none ∈ zTB := zTB_mem 158 (by decide +kernel) rfl
theorem zw_im3 : Cond.instanceMethod yX3_init ∈ zTB := zTB_mem 157 (by decide +kernel) rfl
theorem zw_cn4 : Cond.classLink RX7 9 RX4 ∈ zTB := zTB_mem 152 (by decide +kernel) rfl
theorem zw_in4 : Cond.instantiable RX4 4 ∈ zTB := zTB_mem 361 (by decide +kernel) rfl
theorem zw_iz4 : Cond.initialized RX4 ∈ zTB := zTB_mem 138 (by decide +kernel) rfl
theorem zw_mn4 : Cond.methodLinkNest RX7 68 yX4_init "StampSheets" ∈ zNL := zNL_mem 362 (by decide +kernel) rfl
theorem zw_co4 : Cond.code yX4_init cX4_init 1 none ∈ zTB := zTB_mem 364 (by decide +kernel) rfl
theorem zw_im4 : Cond.instanceMethod yX4_init ∈ zTB := zTB_mem 363 (by decide +kernel) rfl
theorem zw_cn5 : Cond.classLink RX7 22 RX5 ∈ zTB := zTB_mem 186 (by decide +kernel) rfl
theorem zw_in5 : Cond.instantiable RX5 14 ∈ zTB := zTB_mem 187 (by decide +kernel) rfl
theorem zw_iz5 : Cond.initialized RX5 ∈ zTB := zTB_mem 133 (by decide +kernel) rfl
theorem zw_mn5 : Cond.methodLinkNest RX7 24 yX5_init "StampSheets" ∈ zNL := zNL_mem 188 (by decide +kernel) rfl
theorem zw_co5 : Cond.code yX5_init cX5_init 1 none ∈ zTB := zTB_mem 190 (by decide +kernel) rfl
theorem zw_im5 : Cond.instanceMethod yX5_init ∈ zTB := zTB_mem 189 (by decide +kernel) rfl
theorem zw_cn6 : Cond.classLink RX7 57 RX6 ∈ zTB := zTB_mem 345 (by decide +kernel) rfl
theorem zw_in6 : Cond.instantiable RX6 3 ∈ zTB := zTB_mem 346 (by decide +kernel) rfl
theorem zw_iz6 : Cond.initialized RX6 ∈ zTB := zTB_mem 137 (by decide +kernel) rfl
theorem zw_mn6 : Cond.methodLinkNest RX7 59 yX6_init "StampSheets" ∈ zNL := zNL_mem 347 (by decide +kernel) rfl
theorem zw_co6 : Cond.code yX6_init cX6_init 1 none ∈ zTB := zTB_mem 349 (by decide +kernel) rfl
theorem zw_im6 : Cond.instanceMethod yX6_init ∈ zTB := zTB_mem 348 (by decide +kernel) rfl
theorem zjoin {D : va_G} {A0 : Nat → Prop} {wr wc w1 : va_W} {H H1 : Heap} (hP : va_P D vwCl (wr ++ wc) H) (hD : va_D A0 (wr ++ wc)) (hk : ∀ q : Nat, q < H.size → ¬ va_A wc H.size q → H1[q]? = H[q]?) (hF : ∀ q, va_A wc H.size q → A0 q) (hP1 : va_P D vwCl w1 H1) (hD1 : va_D (va_A wc H.size) w1) : va_P D vwCl (wr ++ w1) H1 ∧ va_D A0 (wr ++ w1) := by
  have hl : ∀ (k : Nat) (x : Nat × va_E), wr[k]? = some x → (wr ++ wc)[k]? = some x := fun k x hx => by
    rw [List.getElem?_append_left (List.getElem?_eq_some_iff.mp hx).1]
    exact hx
  have apart : ∀ (k : Nat) (x : Nat × va_E), wr[k]? = some x → x.1 < H.size ∧ ¬ va_A wc H.size x.1 := by
    intro k x hx
    have h1 := (hP k x (hl k x hx)).lt
    refine ⟨h1, fun h => ?_⟩
    rcases h with ⟨j, e, hj⟩ | h
    · have h2 : (wr ++ wc)[wr.length + j]? = some (x.1, e) := by
        rw [List.getElem?_append_right (by omega), show wr.length + j - wr.length = j by omega]
        exact hj
      have h3 := hD.1 k (wr.length + j) x (x.1, e) (hl k x hx) h2 rfl
      have h4 := (List.getElem?_eq_some_iff.mp hx).1
      omega
    · omega
  have hPr : va_P D vwCl wr H := fun k x hx => hP k x (hl k x hx)
  have hDr : va_D A0 wr := ⟨fun i j a b hi hj e => hD.1 i j a b (hl i a hi) (hl j b hj) e, fun k x hx => hD.2 k x (hl k x hx)⟩
  refine ⟨(hPr.kept (fun k x hx => hk x.1 (apart k x hx).1 (apart k x hx).2)).app hP1, hDr.app (hD1.weaken (fun _ _ _ h => hF _ h)) (fun i j a b hi hj e => ?_)⟩
  exact (apart i a hi).2 (by rw [e]; exact hD1.2 j b hj)
section ZC7
variable {p : Program} {l : Launch} {e : Env} {R : Room} {s : State} {m : MethodId} {args : Array Value} {below : List Frame} {meth : Method} {c : Code} {H : Heap} {locs : List Loc} {cells slots : Nat} {Q : State → Prop}
variable {cc : ByteArray} {pc : Nat} {ls : Array Slot} {rest : List Value} {D : va_G} {A : Nat → Prop} {dA : Nat → ClassId} {ws : va_W} {own : String}
/-- new, dup, a constructor's call -/
theorem zk_nw (hC : zKx p s m args meth c cc own D dA A) (hNL : ∀ w ∈ zNL, va_Nw w s) {nL : Nat} (hml : c.maxLocals = nL) (hls : ls.size = nL) (hw : zKw D A s.heap H locs ws) {ci : Nat} {C : String} {T : u_T} {N : Nat} (hc : vwCl[ci]? = some (C, T, N)) (hin : ∀ w ∈ u_ws C T N, w ∈ zTB) (ty : Nat → FieldType) (hty : ∀ k, k < N → parseFieldDescriptor (T k).2.2.1 = some (ty k)) {idx : Nat} (hcl : Cond.classLink own idx C ∈ zTB) (hinst : Cond.instantiable C N ∈ zTB) (hini : Cond.initialized C ∈ zTB) {fs : List Value} (hfs : ∀ j, j < N → defaultValue (ty j) = vp_V fs j) {y : MethodName} {by_ : ByteArray} (hy : y.cls = C) (hyn : y.name = "<init>") (hcode : Cond.code y by_ 1 none ∈ zTB) (him : Cond.instanceMethod y ∈ zTB) {fr mc ms lo : Nat} {wu : (Nat → Nat) → va_W} (hM : ∀ h0 sz, Met l y (zws (y, by_, 1, none)) { frames := fr, cells := mc, slots := ms, locals := lo } (zCp D dA h0 ci fs sz (fun _ => True)) (zCq D h0 ci fs sz wu) mc ms (zCA h0 ci fs sz)) {idx2 : Nat} {host : String} (hlk : Cond.methodLinkNest own idx2 y host ∈ zNL) (hds : y.cls ≠ "java/lang/invoke/MethodHandle" ∧ y.cls ≠ "java/lang/invoke/VarHandle" ∧ (parseMethodDescriptor y.desc).map (fun d => d.parameters.length) = some 0) (hr1 : fr + 1 ≤ R.frames) (hr2 : 20 + lo ≤ R.locals) (hr3 : cells + 1 + mc ≤ R.cells) (hr4 : slots + N + ms ≤ R.slots) (hst : ((Value.ref 0 :: rest).map fun v => v.category).sum ≤ 8) (pc : Nat) (d0 : decode cc pc = .ok (.new idx, 3)) (d1 : decode cc (pc + 3) = .ok (.dup, 1)) (d2 : decode cc (pc + 4) = .ok (.invokespecial idx2, 3))
    (kk : ∀ (u : Nat → Nat) (H1 : Heap) (locs1 : List Loc), zKw D A s.heap H1 locs1 (ws ++ wu u) → W p l e R s m args below meth c H1 locs1 (cells + 1 + mc) (slots + N + ms) Q (F0 m (pc + 7) ls (.ref (u 0) :: rest))) : W p l e R s m args below meth c H locs cells slots Q (F0 m pc ls rest) := by
  obtain ⟨hx, hb, hts, hown, hK, hi2, hA⟩ := hC
  obtain ⟨hP, hD, hS⟩ := hw
  refine va_new (ci := ci) (fs := fs) (C := C) (T := T) (N := N) hx hb hts hin ty hty hown (hts _ hcl) (hts _ hinst) (hts _ hini) hK hP hD hS hA hc hfs (by omega) (by omega) d0 (fun q H hP hD hS => ?_)
  refine lv_dup hx hb d1 rfl ?_
  have hq : (ws ++ [(q, (.inr (ci, fs) : va_E))])[ws.length]? = some (q, .inr (ci, fs)) := by simp
  have hPc : va_P D vwCl [(q, .inr (ci, fs))] H := by
    intro k x hx1
    have hk1 : k = 0 := by
      have := (List.getElem?_eq_some_iff.mp hx1).1
      simp only [List.length_singleton] at this
      omega
    subst hk1
    cases hx1
    exact hP _ _ hq
  have hFc : ∀ x, zCA q ci fs H.size x → A x := by
    intro x hx1
    rcases hx1 with ⟨k, e, h1⟩ | h1
    · have hk1 : k = 0 := by
        have := (List.getElem?_eq_some_iff.mp h1).1
        simp only [List.length_singleton] at this
        omega
      subst hk1
      cases h1
      exact hD.2 _ _ hq
    · exact hA x (Nat.le_trans hS.1 h1)
  refine va_callv (va_runIN (As := []) (rest := .ref q :: rest) ⟨hx, hb, hml, hown, hts⟩ (hM q H.size) ⟨va_cnB 0 hts (zTB_cons hcode) rfl rfl rfl (hNL _ hlk) (by rw [hy]; exact hts _ hini) hds ⟨hr1, by omega⟩, hyn, hts _ him⟩ ⟨fun a U g mk qq => by obtain ⟨q0, q1, qP, qK, qX⟩ := qq; exact ⟨q0, q1, qP, va_K.moved (u := U) (U := U.calling g mk a) (Vm.Alike.refl U.vm) qK, qX⟩, fun U hU hW => ⟨rfl, by rw [hU], by rw [hU]; exact hPc, va_K.moved hW.alike hK, trivial⟩⟩ rfl rfl hls rfl (lv_room hst) d2 ⟨hr3, hr4⟩) hS (fun x _ h => hFc x h) hFc (fun u t H1 locs1 ht hvm hu hB hz1 hk1 hS1 => ?_)
  obtain ⟨hP1, hD1⟩ := hB
  rw [ht] at hP1
  obtain ⟨hP2, hD2⟩ := zjoin (wr := ws) hP hD hk1 hFc hP1 hD1
  rw [← hu]
  exact kk u H1 locs1 ⟨hP2, hD2, hS1⟩
/-- the same, kept in a field of this object -/
theorem zk_nf (hC : zKx p s m args meth c cX7_init RX7 D dA A) (hNL : ∀ w ∈ zNL, va_Nw w s) {nL : Nat} (hml : c.maxLocals = nL) (hls : ls.size = nL) {h0 : Nat} {fs7 : List Value} {rs : va_W} (hw : zKw D A s.heap H locs ((h0, .inr (7, fs7)) :: rs)) (hl0 : ls[0]? = some (.val (.ref h0))) {ci : Nat} {C : String} {T : u_T} {N : Nat} (hc : vwCl[ci]? = some (C, T, N)) (hin : ∀ w ∈ u_ws C T N, w ∈ zTB) (ty : Nat → FieldType) (hty : ∀ k, k < N → parseFieldDescriptor (T k).2.2.1 = some (ty k)) {idx : Nat} (hcl : Cond.classLink RX7 idx C ∈ zTB) (hinst : Cond.instantiable C N ∈ zTB) (hini : Cond.initialized C ∈ zTB) {fs : List Value} (hfs : ∀ j, j < N → defaultValue (ty j) = vp_V fs j) {y : MethodName} {by_ : ByteArray} (hy : y.cls = C) (hyn : y.name = "<init>") (hcode : Cond.code y by_ 1 none ∈ zTB) (him : Cond.instanceMethod y ∈ zTB) {mc ms : Nat} {wu : (Nat → Nat) → va_W} (hM : ∀ h0 sz, Met l y (zws (y, by_, 1, none)) { frames := 1, cells := mc, slots := ms, locals := 12 } (zCp D dA h0 ci fs sz (fun _ => True)) (zCq D h0 ci fs sz wu) mc ms (zCA h0 ci fs sz)) {idx2 : Nat} {host : String} (hlk : Cond.methodLinkNest RX7 idx2 y host ∈ zNL) (hds : y.cls ≠ "java/lang/invoke/MethodHandle" ∧ y.cls ≠ "java/lang/invoke/VarHandle" ∧ (parseMethodDescriptor y.desc).map (fun d => d.parameters.length) = some 0) (hr1 : 2 ≤ R.frames) (hr2 : 32 ≤ R.locals) (hr3 : cells + 1 + mc ≤ R.cells) (hr4 : slots + N + ms ≤ R.slots) (pc : Nat) (da : decode cX7_init pc = .ok (.aload_n 0, 1)) (d0 : decode cX7_init (pc + 1) = .ok (.new idx, 3)) (d1 : decode cX7_init (pc + 4) = .ok (.dup, 1)) (d2 : decode cX7_init (pc + 5) = .ok (.invokespecial idx2, 3)) (k : Nat) (hk : k < 10) {idx3 : Nat} (hm : Cond.fieldLink RX7 idx3 (TX7 k).1 (TX7 k).2.1 (TX7 k).2.2.1 ∈ zTB) (hdecl : (TX7 k).1 = RX7) {tyf : String} (hd : parseFieldDescriptor (TX7 k).2.2.1 = some (.object tyf)) (hl : k < fs7.length) (d3 : decode cX7_init (pc + 8) = .ok (.putfield idx3, 3))
    (kk : ∀ (u : Nat → Nat) (H1 : Heap) (locs1 : List Loc), zKw D A s.heap H1 locs1 ((h0, .inr (7, fs7.set k (.ref (u 0)))) :: (rs ++ wu u)) → W p l e R s m args below meth c H1 locs1 (cells + 1 + mc) (slots + N + ms) Q (F0 m (pc + 11) ls [])) : W p l e R s m args below meth c H locs cells slots Q (F0 m pc ls []) := by
  refine lv_aload_n hC.1 hC.2.1 da rfl hl0 ?_
  refine zk_nw hC hNL hml hls hw hc hin ty hty hcl hinst hini hfs hy hyn hcode him hM hlk hds hr1 hr2 hr3 hr4 (Nat.le_of_ble_eq_true rfl) (pc + 1) d0 d1 d2 (fun u H1 locs1 hw1 => ?_)
  exact zk_pf (v := .ref (u 0)) (ty := .object tyf) hC (rs := rs ++ wu u) hw1 (show vwCl[7]? = _ from rfl) zinX7 tyX7 tyX7_ok nmX7 k hk hm hdecl hd rfl rfl hl d3 (fun H2 locs2 hw2 => kk u H2 locs2 hw2)
/-- an array of cells, kept in a field -/
theorem zk_nq (hC : zKx p s m args meth c cX7_init RX7 D dA A) {h0 : Nat} {fs7 : List Value} {rs : va_W} (hw : zKw D A s.heap H locs ((h0, .inr (7, fs7)) :: rs)) (hl0 : ls[0]? = some (.val (.ref h0))) {C : String} (hov : va_AO C s) (t : Nat) (ht : (zTys dA)[t]? = some (dA t, .object C)) (pc pc2 : Nat) {len : Nat} {n : Int32} {N' : Nat} (da : decode cX7_init pc = .ok (.aload_n 0, 1)) (d1 : zPu cX7_init (pc + 1) len n) (hpc : pc + 1 + len = pc2) {idx : Nat} (hcl : Cond.classLink RX7 idx C ∈ zTB) (hn : ¬ n < 0) (hN : n.toNatClampNeg = N') (hbytes : N' * 4 ≤ 536870912) (hcells : cells + 1 ≤ R.cells) (hslots : slots + N' ≤ R.slots) (d2 : decode cX7_init pc2 = .ok (.anewarray idx, 3)) (k : Nat) (hk : k < 10) {idx3 : Nat} (hm : Cond.fieldLink RX7 idx3 (TX7 k).1 (TX7 k).2.1 (TX7 k).2.2.1 ∈ zTB) (hdecl : (TX7 k).1 = RX7) (hd : parseFieldDescriptor (TX7 k).2.2.1 = some (.array (.object C))) (hl : k < fs7.length) (d3 : decode cX7_init (pc2 + 3) = .ok (.putfield idx3, 3))
    (kk : ∀ (q : Nat) (H1 : Heap) (locs1 : List Loc), zKw D A s.heap H1 locs1 ((h0, .inr (7, fs7.set k (.ref q))) :: (rs ++ [(q, .inl (dA t, N', .inr (.inr (.inr (.inr (fun _ => none))))))])) → W p l e R s m args below meth c H1 locs1 (cells + 1) (slots + N') Q (F0 m (pc2 + 6) ls [])) : W p l e R s m args below meth c H locs cells slots Q (F0 m pc ls []) := by
  obtain ⟨hx, hb, hts, hown, hK, hi2, hA⟩ := id hC
  obtain ⟨hP, hD, hS⟩ := hw
  refine lv_aload_n hx hb da rfl hl0 (zk_pu hx hb d1 ?_)
  rw [hpc]
  refine va_newq hx hb hown (hts _ hcl) hov hK hP hD hS hA hn hN hbytes hcells hslots d2 (fun q cA H1 hK1 hP1 hD1 hS1 => ?_)
  have e : cA = dA t := by
    obtain ⟨_, _, _, _, _, h1⟩ := (hK1.2 5 (cA, .object C) rfl).2
    obtain ⟨_, _, _, _, _, h2⟩ := (hK.2 t _ ht).2
    exact Option.some.inj (h1.symm.trans h2)
  rw [e] at hP1 hD1
  have hw1 : zKw D A s.heap H1 locs ((h0, .inr (7, fs7)) :: (rs ++ [(q, .inl (dA t, N', .inr (.inr (.inr (.inr (fun _ => none))))))])) := ⟨hP1, hD1, hS1⟩
  exact zk_pf (v := .ref q) (ty := .array (.object C)) hC hw1 (show vwCl[7]? = _ from rfl) zinX7 tyX7 tyX7_ok nmX7 k hk hm hdecl hd rfl rfl hl d3 (fun H2 locs2 hw2 => kk q H2 locs2 hw2)
theorem zKw_swap {H0 : Heap} {x y z : Nat × va_E} {rs : va_W} (hw : zKw D A H0 H locs (x :: y :: (rs ++ [z]))) : zKw D A H0 H locs (x :: y :: z :: rs) := by
  obtain ⟨hP, hD, hS⟩ := hw
  exact ⟨va_P.swap (a := [x, y]) (b := rs) (c := [z]) hP, va_D.swap (a := [x, y]) (b := rs) (c := [z]) hD, hS⟩
/-- one round of a loop that fills an array of cells -/
theorem zk_rq (hC : zKx p s m args meth c cX7_init RX7 D dA A) (hNL : ∀ w ∈ zNL, va_Nw w s) (hml : c.maxLocals = 2) {h0 a : Nat} {fs7 : List Value} (hw : zKw D A s.heap H locs ws) (he : ws[0]? = some (h0, .inr (7, fs7))) (kf : Nat) (hkf : kf < 10) (hv : fs7[kf]? = some (.ref a)) (pA t : Nat) {n : Nat} {f : Nat → Option Nat} (ha : ws[pA]? = some (a, .inl (dA t, n, .inr (.inr (.inr (.inr f)))))) {ci : Nat} {C : String} {T : u_T} {N : Nat} (ht : (zTys dA)[t]? = some (dA t, .object C)) (hc : vwCl[ci]? = some (C, T, N)) (hin : ∀ w ∈ u_ws C T N, w ∈ zTB) (ty : Nat → FieldType) (hty : ∀ k, k < N → parseFieldDescriptor (T k).2.2.1 = some (ty k)) {idx : Nat} (hcl : Cond.classLink RX7 idx C ∈ zTB) (hinst : Cond.instantiable C N ∈ zTB) (hini : Cond.initialized C ∈ zTB) {fs : List Value} (hfs : ∀ j, j < N → defaultValue (ty j) = vp_V fs j) {y : MethodName} {by_ : ByteArray} (hy : y.cls = C) (hyn : y.name = "<init>") (hcode : Cond.code y by_ 1 none ∈ zTB) (him : Cond.instanceMethod y ∈ zTB) {mc ms : Nat} {wu : (Nat → Nat) → va_W} {vs : List Value} (hwu : ∀ u, (wu u)[0]? = some (u 0, .inr (ci, vs)) ∨ ∃ vs, (wu u)[0]? = some (u 0, .inr (ci, vs))) (hM : ∀ h0 sz, Met l y (zws (y, by_, 1, none)) { frames := 1, cells := mc, slots := ms, locals := 12 } (zCp D dA h0 ci fs sz (fun _ => True)) (zCq D h0 ci fs sz wu) mc ms (zCA h0 ci fs sz)) {idx2 : Nat} {host : String} (hlk : Cond.methodLinkNest RX7 idx2 y host ∈ zNL) (hds : y.cls ≠ "java/lang/invoke/MethodHandle" ∧ y.cls ≠ "java/lang/invoke/VarHandle" ∧ (parseMethodDescriptor y.desc).map (fun d => d.parameters.length) = some 0) (hr1 : 2 ≤ R.frames) (hr2 : 32 ≤ R.locals) (hr3 : cells + 1 + mc ≤ R.cells) (hr4 : slots + N + ms ≤ R.slots)
    (b lp : Nat) {i j bnd : Int32} {ni : Nat} {off off2 : Int} {tgt : Nat} (hl : lv_has ls 2 [(1, .int i), (0, .ref h0)]) (d0 : decode cX7_init b = .ok (.iload_n 1, 1)) (d1 : zPu cX7_init (b + 1) lp bnd) (d2 : decode cX7_init (b + 1 + lp) = .ok (.if_icmp .ge off, 3)) (ht2 : ((b + 1 + lp : Nat) : Int) + off = (tgt : Int)) (hi : ¬ bnd ≤ i) (d3 : decode cX7_init (b + 1 + lp + 3) = .ok (.aload_n 0, 1)) {idx3 : Nat} (hm : Cond.fieldLink RX7 idx3 (TX7 kf).1 (TX7 kf).2.1 (TX7 kf).2.2.1 ∈ zTB) (d4 : decode cX7_init (b + 1 + lp + 4) = .ok (.getfield idx3, 3)) (d5 : decode cX7_init (b + 1 + lp + 7) = .ok (.iload_n 1, 1)) (d6 : decode cX7_init (b + 1 + lp + 8) = .ok (.new idx, 3)) (d7 : decode cX7_init (b + 1 + lp + 11) = .ok (.dup, 1)) (d8 : decode cX7_init (b + 1 + lp + 12) = .ok (.invokespecial idx2, 3)) (d9 : decode cX7_init (b + 1 + lp + 15) = .ok (.aastore, 1)) (hini2 : vp_in i n) (hni : i.toNatClampNeg = ni) (hj : i + 1 = j) (d10 : decode cX7_init (b + 1 + lp + 16) = .ok (.iinc 1 1, 3)) (d11 : decode cX7_init (b + 1 + lp + 19) = .ok (.goto off2, 3)) (ht3 : ((b + 1 + lp + 19 : Nat) : Int) + off2 = (b : Int))
    (kk : ∀ (u : Nat → Nat) (H1 : Heap) (locs1 : List Loc) (ls1 : Array Slot), zKw D A s.heap H1 locs1 ((ws ++ wu u).set pA (a, .inl (dA t, n, .inr (.inr (.inr (.inr (va_up f ni (some (u 0))))))))) → lv_has ls1 2 [(1, .int j), (0, .ref h0)] → W p l e R s m args below meth c H1 locs1 (cells + 1 + mc) (slots + N + ms) Q (F0 m b ls1 [])) : W p l e R s m args below meth c H locs cells slots Q (F0 m b ls []) := by
  obtain ⟨hx, hb, hts, hown, hK, hi2, hA⟩ := id hC
  refine lv_iload_n hx hb d0 rfl (lv_at hl 0 rfl) (zk_pu hx hb d1 ?_)
  refine lv_icmp_ge hx hb d2 ht2 (fun h => absurd h hi) (fun _ => ?_)
  refine lv_aload_n hx hb d3 rfl (lv_at hl 1 rfl) ?_
  refine va_get (D := D) (ci := 7) (v := .ref a) (C := RX7) (T := TX7) (N := 10) (ref := (TX7 kf).1) hx hb hts zinX7 hown hK hw.1 0 he rfl kf hkf (hts _ hm) (fun _ h => h) hv d4 ?_
  refine lv_iload_n hx hb d5 rfl (lv_at hl 0 rfl) ?_
  refine zk_nw hC hNL hml hl.1 hw hc hin ty hty hcl hinst hini hfs hy hyn hcode him hM hlk hds hr1 hr2 hr3 hr4 (Nat.le_of_ble_eq_true rfl) (b + 1 + lp + 8) d6 d7 d8 (fun u H1 locs1 hw1 => ?_)
  obtain ⟨hP, hD, hS⟩ := hw1
  obtain ⟨vs, hu0⟩ : ∃ vs, (wu u)[0]? = some (u 0, .inr (ci, vs)) := (hwu u).elim (fun h => ⟨_, h⟩) id
  have ha2 : (ws ++ wu u)[pA]? = some (a, .inl (dA t, n, .inr (.inr (.inr (.inr f))))) := by
    rw [List.getElem?_append_left (List.getElem?_eq_some_iff.mp ha).1]
    exact ha
  have hv2 : (ws ++ wu u)[ws.length]? = some (u 0, .inr (ci, vs)) := by
    rw [List.getElem?_append_right (Nat.le_refl _), Nat.sub_self]
    exact hu0
  subst hni
  refine va_astq hx hb hK hP hD hS pA t ws.length ci ha2 ht hv2 hc hini2 d9 (fun H2 locs2 hP2 hD2 hS2 => ?_)
  refine lv_iinc (i := 1) (n := 1) (k := 0) (v := j) (lv' := [(1, .int j), (0, .ref h0)]) hx hb d10 hl rfl (by rw [← hj]; rfl) (by decide) rfl (fun ls hl => ?_)
  refine lv_goto hx hb d11 ht3 ?_
  exact kk u H2 locs2 ls ⟨hP2, hD2, hS2⟩ hl
end ZC7
theorem zdf0 : ∀ j, j < 5 → defaultValue (tyX0 j) = vp_V zfX0 j := by
  intro j hj
  rcases (show j = 0 ∨ j = 1 ∨ j = 2 ∨ j = 3 ∨ j = 4 by omega) with rfl | rfl | rfl | rfl | rfl <;> rfl
theorem zdi0 : yX0_init.cls ≠ "java/lang/invoke/MethodHandle" ∧ yX0_init.cls ≠ "java/lang/invoke/VarHandle" ∧ (parseMethodDescriptor yX0_init.desc).map (fun d => d.parameters.length) = some 0 := ⟨by decide +kernel, by decide +kernel, by decide +kernel⟩
theorem zdf1 : ∀ j, j < 6 → defaultValue (tyX1 j) = vp_V zfX1 j := by
  intro j hj
  rcases (show j = 0 ∨ j = 1 ∨ j = 2 ∨ j = 3 ∨ j = 4 ∨ j = 5 by omega) with rfl | rfl | rfl | rfl | rfl | rfl <;> rfl
theorem zdi1 : yX1_init.cls ≠ "java/lang/invoke/MethodHandle" ∧ yX1_init.cls ≠ "java/lang/invoke/VarHandle" ∧ (parseMethodDescriptor yX1_init.desc).map (fun d => d.parameters.length) = some 0 := ⟨by decide +kernel, by decide +kernel, by decide +kernel⟩
theorem zdf2 : ∀ j, j < 8 → defaultValue (tyX2 j) = vp_V zfX2 j := by
  intro j hj
  rcases (show j = 0 ∨ j = 1 ∨ j = 2 ∨ j = 3 ∨ j = 4 ∨ j = 5 ∨ j = 6 ∨ j = 7 by omega) with rfl | rfl | rfl | rfl | rfl | rfl | rfl | rfl <;> rfl
theorem zdi2 : yX2_init.cls ≠ "java/lang/invoke/MethodHandle" ∧ yX2_init.cls ≠ "java/lang/invoke/VarHandle" ∧ (parseMethodDescriptor yX2_init.desc).map (fun d => d.parameters.length) = some 0 := ⟨by decide +kernel, by decide +kernel, by decide +kernel⟩
theorem zdf3 : ∀ j, j < 7 → defaultValue (tyX3 j) = vp_V zfX3 j := by
  intro j hj
  rcases (show j = 0 ∨ j = 1 ∨ j = 2 ∨ j = 3 ∨ j = 4 ∨ j = 5 ∨ j = 6 by omega) with rfl | rfl | rfl | rfl | rfl | rfl | rfl <;> rfl
theorem zdi3 : yX3_init.cls ≠ "java/lang/invoke/MethodHandle" ∧ yX3_init.cls ≠ "java/lang/invoke/VarHandle" ∧ (parseMethodDescriptor yX3_init.desc).map (fun d => d.parameters.length) = some 0 := ⟨by decide +kernel, by decide +kernel, by decide +kernel⟩
theorem zdf4 : ∀ j, j < 4 → defaultValue (tyX4 j) = vp_V zfX4 j := by
  intro j hj
  rcases (show j = 0 ∨ j = 1 ∨ j = 2 ∨ j = 3 by omega) with rfl | rfl | rfl | rfl <;> rfl
theorem zdi4 : yX4_init.cls ≠ "java/lang/invoke/MethodHandle" ∧ yX4_init.cls ≠ "java/lang/invoke/VarHandle" ∧ (parseMethodDescriptor yX4_init.desc).map (fun d => d.parameters.length) = some 0 := ⟨by decide +kernel, by decide +kernel, by decide +kernel⟩
theorem zdf5 : ∀ j, j < 14 → defaultValue (tyX5 j) = vp_V zfX5 j := by
  intro j hj
  rcases (show j = 0 ∨ j = 1 ∨ j = 2 ∨ j = 3 ∨ j = 4 ∨ j = 5 ∨ j = 6 ∨ j = 7 ∨ j = 8 ∨ j = 9 ∨ j = 10 ∨ j = 11 ∨ j = 12 ∨ j = 13 by omega) with rfl | rfl | rfl | rfl | rfl | rfl | rfl | rfl | rfl | rfl | rfl | rfl | rfl | rfl <;> rfl
theorem zdi5 : yX5_init.cls ≠ "java/lang/invoke/MethodHandle" ∧ yX5_init.cls ≠ "java/lang/invoke/VarHandle" ∧ (parseMethodDescriptor yX5_init.desc).map (fun d => d.parameters.length) = some 0 := ⟨by decide +kernel, by decide +kernel, by decide +kernel⟩
theorem zdf6 : ∀ j, j < 3 → defaultValue (tyX6 j) = vp_V zfX6 j := by
  intro j hj
  rcases (show j = 0 ∨ j = 1 ∨ j = 2 by omega) with rfl | rfl | rfl <;> rfl
theorem zdi6 : yX6_init.cls ≠ "java/lang/invoke/MethodHandle" ∧ yX6_init.cls ≠ "java/lang/invoke/VarHandle" ∧ (parseMethodDescriptor yX6_init.desc).map (fun d => d.parameters.length) = some 0 := ⟨by decide +kernel, by decide +kernel, by decide +kernel⟩

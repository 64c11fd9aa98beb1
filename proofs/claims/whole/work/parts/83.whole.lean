/-! The law, from its entry. -/
theorem zNw_of {w : Cond} {s : State} {a : Array Value} (hw : w ∈ zNL) (h : w.before a s = true) : va_Nw w s := by
  have h1 := (List.mem_filter.mp hw).2
  cases w <;> first | exact va_Nw.of rfl h | cases h1
section ZLS
variable {p : Program} {l : Launch} {e : Env} {R : Room} {s : State} {m : MethodId} {args : Array Value} {below : List Frame} {meth : Method} {c : Code} {H : Heap} {locs : List Loc} {cells slots : Nat} {Q : State → Prop}
variable {cc : ByteArray} {pc : Nat} {ls : Array Slot} {rest : List Value} {D : va_G} {A : Nat → Prop} {dA : Nat → ClassId} {ws : va_W} {own : String}
/-- new, dup, a constructor's call, from outside the nest -/
theorem zl_nw (hx : p.tables.exec = Jvm.exec) (hb : c.code = cc) (hts : ∀ w ∈ zTB, w.before args s = true) (hown : s.vm.findClass own = some m.cls) (hK : va_K D vwCl (zTys dA) s) (hA : ∀ q, s.heap.size ≤ q → A q) {X : State → Prop} (hXw : ∀ U : State, s.WarmedH U.vm → X U) (hXc : ∀ (a : Array Value) (U : State) g mk, X U → X (U.calling g mk a)) {nL : Nat} (hml : c.maxLocals = nL) (hls : ls.size = nL) (hw : zKw D A s.heap H locs ws) {ci : Nat} {C : String} {T : u_T} {N : Nat} (hc : vwCl[ci]? = some (C, T, N)) (hin : ∀ w ∈ u_ws C T N, w ∈ zTB) (ty : Nat → FieldType) (hty : ∀ k, k < N → parseFieldDescriptor (T k).2.2.1 = some (ty k)) {idx : Nat} (hcl : Cond.classLink own idx C ∈ zTB) (hinst : Cond.instantiable C N ∈ zTB) (hini : Cond.initialized C ∈ zTB) {fs : List Value} (hfs : ∀ j, j < N → defaultValue (ty j) = vp_V fs j) {y : MethodName} {by_ : ByteArray} {mL : Nat} (hy : y.cls = C) (hyn : y.name = "<init>") (hcode : Cond.code y by_ mL none ∈ zTB) (him : Cond.instanceMethod y ∈ zTB) {fr mc ms lo : Nat} {wu : (Nat → Nat) → va_W} (hM : ∀ h0 sz, Met l y (zws (y, by_, mL, none)) { frames := fr, cells := mc, slots := ms, locals := lo } (zCp D dA h0 ci fs sz X) (zCq D h0 ci fs sz wu) mc ms (zCA h0 ci fs sz)) {idx2 : Nat} (hlk : Cond.methodLink own idx2 y ∈ zTB) (hds : y.cls ≠ "java/lang/invoke/MethodHandle" ∧ y.cls ≠ "java/lang/invoke/VarHandle" ∧ (parseMethodDescriptor y.desc).map (fun d => d.parameters.length) = some 0) (hr1 : fr + 1 ≤ R.frames) (hr2 : 8 + (mL + 11) + lo ≤ R.locals) (hr3 : cells + 1 + mc ≤ R.cells) (hr4 : slots + N + ms ≤ R.slots) (hst : ((Value.ref 0 :: rest).map fun v => v.category).sum ≤ 8) (pc : Nat) (d0 : decode cc pc = .ok (.new idx, 3)) (d1 : decode cc (pc + 3) = .ok (.dup, 1)) (d2 : decode cc (pc + 4) = .ok (.invokespecial idx2, 3))
    (kk : ∀ (u : Nat → Nat) (H1 : Heap) (locs1 : List Loc), zKw D A s.heap H1 locs1 (ws ++ wu u) → W p l e R s m args below meth c H1 locs1 (cells + 1 + mc) (slots + N + ms) Q (F0 m (pc + 7) ls (.ref (u 0) :: rest))) : W p l e R s m args below meth c H locs cells slots Q (F0 m pc ls rest) := by
  obtain ⟨hP, hD, hS⟩ := hw
  refine va_new (ci := ci) (fs := fs) (C := C) (T := T) (N := N) hx hb hts hin ty hty hown (hts _ hcl) (hts _ hinst) (hts _ hini) hK hP hD hS hA hc hfs (by omega) (by omega) d0 (fun q H hP hD hS => ?_)
  refine lv_dup hx hb d1 rfl ?_
  have hq : (ws ++ [(q, (.inr (ci, fs) : va_E))])[ws.length]? = some (q, .inr (ci, fs)) := by simp
  have hPc : va_P D vwCl [(q, .inr (ci, fs))] H := by
    intro k x hx1
    have hk1 : k = 0 := by
      have := (List.getElem?_eq_some_iff.mp hx1).1
      simp only [List.length_singleton] at this
      omega
    subst hk1
    cases hx1
    exact hP _ _ hq
  have hFc : ∀ x, zCA q ci fs H.size x → A x := by
    intro x hx1
    rcases hx1 with ⟨k, e, h1⟩ | h1
    · have hk1 : k = 0 := by
        have := (List.getElem?_eq_some_iff.mp h1).1
        simp only [List.length_singleton] at this
        omega
      subst hk1
      cases h1
      exact hD.2 _ _ hq
    · exact hA x (Nat.le_trans hS.1 h1)
  refine va_callv (va_runI (As := []) (rest := .ref q :: rest) ⟨hx, hb, hml, hown, hts⟩ (hM q H.size) (cwI 0 hts (zTB_cons hcode) rfl rfl rfl (by rw [hy]; exact hts _ hini) (hts _ hlk) (hts _ him) hyn hds ⟨hr1, hr2⟩) ⟨fun a U g mk qq => by obtain ⟨q0, q1, qP, qK, qX⟩ := qq; exact ⟨q0, q1, qP, va_K.moved (u := U) (U := U.calling g mk a) (Vm.Alike.refl U.vm) qK, hXc a U g mk qX⟩, fun U hU hW => ⟨rfl, by rw [hU], by rw [hU]; exact hPc, va_K.moved hW.alike hK, hXw U hW⟩⟩ rfl rfl hls rfl (lv_room hst) d2 ⟨hr3, hr4⟩) hS (fun x _ h => hFc x h) hFc (fun u t H1 locs1 ht hvm hu hB hz1 hk1 hS1 => ?_)
  obtain ⟨hP1, hD1⟩ := hB
  rw [ht] at hP1
  obtain ⟨hP2, hD2⟩ := zjoin (wr := ws) hP hD hk1 hFc hP1 hD1
  rw [← hu]
  exact kk u H1 locs1 ⟨hP2, hD2, hS1⟩
end ZLS
theorem zw_lc7 : Cond.classLink RL 7 RX7 ∈ zTB := zTB_mem 144 (by decide +kernel) rfl
theorem zw_lm7 : Cond.methodLink RL 9 yX7_init ∈ zTB := zTB_mem 146 (by decide +kernel) rfl
theorem zw_im7 : Cond.instanceMethod yX7_init ∈ zTB := zTB_mem 147 (by decide +kernel) rfl
theorem zw_co7 : Cond.code yX7_init cX7_init 2 none ∈ zTB := zTB_mem 148 (by decide +kernel) rfl
theorem zw_lc8 : Cond.classLink RL 10 RX8 ∈ zTB := zTB_mem 1044 (by decide +kernel) rfl
theorem zw_lm8 : Cond.methodLink RL 12 yX8_init ∈ zTB := zTB_mem 1046 (by decide +kernel) rfl
theorem zw_im8 : Cond.instanceMethod yX8_init ∈ zTB := zTB_mem 1047 (by decide +kernel) rfl
theorem zw_co8 : Cond.code yX8_init cX8_init 2 none ∈ zTB := zTB_mem 1048 (by decide +kernel) rfl
theorem zdf7 : ∀ j, j < 10 → defaultValue (tyX7 j) = vp_V zfX7 j := by
  intro j hj
  rcases (show j = 0 ∨ j = 1 ∨ j = 2 ∨ j = 3 ∨ j = 4 ∨ j = 5 ∨ j = 6 ∨ j = 7 ∨ j = 8 ∨ j = 9 by omega) with rfl | rfl | rfl | rfl | rfl | rfl | rfl | rfl | rfl | rfl <;> rfl
theorem zdi7 : yX7_init.cls ≠ "java/lang/invoke/MethodHandle" ∧ yX7_init.cls ≠ "java/lang/invoke/VarHandle" ∧ (parseMethodDescriptor yX7_init.desc).map (fun d => d.parameters.length) = some 0 := ⟨by decide +kernel, by decide +kernel, by decide +kernel⟩
theorem zdf8 : ∀ j, j < 23 → defaultValue (tyX8 j) = vp_V zfX8 j := by
  intro j hj
  rcases (show j = 0 ∨ j = 1 ∨ j = 2 ∨ j = 3 ∨ j = 4 ∨ j = 5 ∨ j = 6 ∨ j = 7 ∨ j = 8 ∨ j = 9 ∨ j = 10 ∨ j = 11 ∨ j = 12 ∨ j = 13 ∨ j = 14 ∨ j = 15 ∨ j = 16 ∨ j = 17 ∨ j = 18 ∨ j = 19 ∨ j = 20 ∨ j = 21 ∨ j = 22 by omega) with rfl | rfl | rfl | rfl | rfl | rfl | rfl | rfl | rfl | rfl | rfl | rfl | rfl | rfl | rfl | rfl | rfl | rfl | rfl | rfl | rfl | rfl | rfl <;> rfl
theorem zdi8 : yX8_init.cls ≠ "java/lang/invoke/MethodHandle" ∧ yX8_init.cls ≠ "java/lang/invoke/VarHandle" ∧ (parseMethodDescriptor yX8_init.desc).map (fun d => d.parameters.length) = some 0 := ⟨by decide +kernel, by decide +kernel, by decide +kernel⟩
set_option maxHeartbeats 4000000 in
/-- from the entry, for every script of at most 512 ints, the law comes to its end with true -/
theorem whole_start {p : Program} {e : Env} {s : State} {m : MethodId} {below : List Frame} {meth : Method} {c : Code} (l : Launch) {b L : Nat} {xs : Nat → Int32} (hL : L ≤ 512) (C0 : lw_At p s m meth c b L xs) : W p l e room_1 s m #[Value.ref b] below meth c s.heap [] 0 0 (lw_Z below #[Value.ref b] s) (entryFrame m ([Value.ref b] : List Value).toArray 4) := by
  obtain ⟨hx, hb, hr, hml, hown, hts0, hX, hbl, hlocks, hgv⟩ := id C0
  have hts : ∀ w ∈ zTB, w.before #[Value.ref b] s = true := fun w hw => hts0 w (List.mem_filter.mp hw).1
  have hNL : ∀ w ∈ zNL, va_Nw w s := fun w hw => zNw_of hw (hts0 w (List.mem_filter.mp hw).1)
  have ho4 : va_AO "StampSheets$Row" s := va_AO.of (hts0 (Cond.arrayOver (.object "StampSheets$Row")) (List.mem_of_getElem? (i := 153) (by decide +kernel)))
  have ho5 : va_AO "StampSheets$Sheet" s := va_AO.of (hts0 (Cond.arrayOver (.object "StampSheets$Sheet")) (List.mem_of_getElem? (i := 261) (by decide +kernel)))
  obtain ⟨D, dA, hK⟩ := zK_of hts ho4 ho5
  obtain ⟨A, hAe⟩ : ∃ A : Nat → Prop, A = fun q => s.heap.size ≤ q := ⟨_, rfl⟩
  have hA : ∀ q, s.heap.size ≤ q → A q := fun q h => by rw [hAe]; exact h
  have hAq : ∀ q, A q → s.heap.size ≤ q := fun q h => by rw [hAe] at h; exact h
  have hbA : ¬ A b := fun h => absurd (hAq b h) (Nat.not_le.mpr hbl)
  obtain ⟨w0, hSt⟩ := zst_of (A := A) hts0 hgv (fun a h1 h2 => absurd (hAq a h2) (Nat.not_le.mpr h1))
  have hP0 : va_P D vwCl [] s.heap := fun k q h => by simp at h
  have hD0 : va_D A [] := ⟨fun i j p q h => by simp at h, fun k q h => by simp at h⟩
  have hl := lv_entry ([.ref b]) (n := 4) (Nat.le_of_ble_eq_true rfl)
  rw [lg_entry_eq]
  generalize (lg_sl ([.ref b]) ++ List.replicate (4 - (lg_sl ([.ref b])).length) Slot.unset).toArray = ls at hl ⊢
  have hl : lv_has ls 4 [(0, .ref b)] := hl
  have hXw : ∀ U : State, s.WarmedH U.vm → zX7 U := fun U hW => ⟨fun w hw => zNw_warm hw hW (hNL w hw), ho4.moved hW.alike, ho5.moved hW.alike⟩
  have hXc : ∀ (a : Array Value) (U : State) g mk, zX7 U → zX7 (U.calling g mk a) := fun a U g mk h => ⟨fun w hw => zNw_same (s := U) (U := U.calling g mk a) hw rfl (h.1 w hw), h.2.1.moved (U := U.calling g mk a) (Vm.Alike.refl U.vm), h.2.2.moved (U := U.calling g mk a) (Vm.Alike.refl U.vm)⟩
  refine zl_nw (own := RL) (cc := code) (wu := zwX7 dA) hx hb hts hown hK hA hXw hXc hml hl.1 ⟨hP0, hD0, va_S.rf⟩ (show vwCl[7]? = _ from rfl) zinX7 tyX7 tyX7_ok zw_lc7 zw_in7 zw_iz7 (fs := zfX7) zdf7 rfl rfl zw_co7 zw_im7 (fun h0 sz => c_X7 l D dA h0 sz) zw_lm7 zdi7 (by decide) (by decide) (by decide) (by decide) (Nat.le_of_ble_eq_true rfl) 0 (by decide +kernel) (by decide +kernel) (by decide +kernel) (fun u1 H locs hw => ?_)
  refine lv_astore_n (k := 1) (i := 1) (lv' := [(1, .ref (u1 0)), (0, .ref b)]) hx hb (by decide +kernel) rfl hl (by decide) rfl (fun ls hl => ?_)
  refine zl_nw (own := RL) (cc := code) (wu := zwX8 dA) (X := fun _ => True) hx hb hts hown hK hA (fun _ _ => trivial) (fun _ _ _ _ _ => trivial) hml hl.1 hw (show vwCl[8]? = _ from rfl) zinX8 tyX8 tyX8_ok zw_lc8 zw_in8 zw_iz8 (fs := zfX8) zdf8 rfl rfl zw_co8 zw_im8 (fun h0 sz => c_X8 l D dA h0 sz) zw_lm8 zdi8 (by decide) (by decide) (by decide) (by decide) (Nat.le_of_ble_eq_true rfl) 8 (by decide +kernel) (by decide +kernel) (by decide +kernel) (fun u2 H locs hw => ?_)
  refine lv_astore_n (k := 2) (i := 2) (lv' := [(2, .ref (u2 0)), (1, .ref (u1 0)), (0, .ref b)]) hx hb (by decide +kernel) rfl hl (by decide) rfl (fun ls hl => ?_)
  refine lv_iconst (n := 0) (v := nI 0) hx hb (by decide +kernel) (by decide +kernel) ?_
  refine lv_istore_n (k := 3) (i := 3) (lv' := [(3, .int (nI 0)), (2, .ref (u2 0)), (1, .ref (u1 0)), (0, .ref b)]) hx hb (by decide +kernel) rfl hl (by decide) rfl (fun ls hl => ?_)
  have hw : zKw D A s.heap H locs (zwX7 dA u1 ++ zwX8 dA u2) := hw
  obtain ⟨hP, hD, hS⟩ := hw
  obtain ⟨w, hwe⟩ : ∃ w : Nat → Nat, w = fun k => if k = 2000 then b else w0 k := ⟨_, rfl⟩
  have hAd : zAd (zad u1 u2 w) A := zstart_D hD
  have hP := zstart_P (w := w) hP
  have had : zad u1 u2 w 2000 = b := by
    rw [hwe]
    rfl
  have hSt2 : zSt (zad u1 u2 w) A s s.heap := by
    rw [hwe]
    exact hSt u1 u2
  have hC : zCx p room_1 s m #[Value.ref b] c code RL 4 D dA (zad u1 u2 w) A 12 83 6799 := ⟨hx, hb, hml, hown, hts, hNL, hK, hAd, hSt2, by decide, by decide, by decide, by decide⟩
  have hE : zES zmt l D dA (zad u1 u2 w) A 12 (zenv zbt 12) := zenv_ok hAd zB_ok 12
  have hLH : zLH (zad u1 u2 w) ls 4 (zlo (nI 0)) := by
    refine ⟨hl.1, hl.2.1, fun i v hi => ?_⟩
    match i, hi with
    | 0, hi =>
      cases hi
      show ls[0]? = some (.val (.ref (zad u1 u2 w 2000)))
      rw [had]
      exact lv_at hl 3 rfl
    | 1, hi => cases hi; exact lv_at hl 2 (v := .ref (u1 0)) rfl
    | 2, hi => cases hi; exact lv_at hl 1 (v := .ref (u2 0)) rfl
    | 3, hi => cases hi; exact lv_at hl 0 (v := .int (nI 0)) rfl
    | i + 4, hi => simp [zlo] at hi
  refine W.widen (k := 83) (n := 6799) (by decide) (by decide) ?_
  exact zl_loop hC hE hX hbl hbA had hL hr hlocks hAq (L + 1) 0 (fun _ => 0) zM0 (by omega) (Nat.zero_le _) zInv0 H locs ls hP hS hLH rfl

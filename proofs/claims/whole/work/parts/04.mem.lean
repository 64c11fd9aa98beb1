/-! Fields, arrays, switches, calls -/
theorem zfld_set {M : ZM} {ad : Nat → Nat} {a j : Nat} {fs : List (Option Nat)} {x : Int32} (h : fs[j]? = some none) : fs.mapIdx (zfld (zw M a j x) ad a) = (fs.mapIdx (zfld M ad a)).set j (.int x) := by
  apply List.ext_getElem?
  intro i
  rw [List.getElem?_mapIdx, List.getElem?_set, List.getElem?_mapIdx]
  by_cases hi : j = i
  · subst hi
    have hlt : j < (fs.mapIdx (zfld M ad a)).length := by
      rw [List.length_mapIdx]
      exact (List.getElem?_eq_some_iff.mp h).1
    rw [if_pos rfl, if_pos hlt, h]
    simp [zfld, zw, upd]
  · rw [if_neg hi]
    cases hf : fs[i]? with
    | none => rfl
    | some f =>
      cases f with
      | none =>
        have : ¬ i = j := fun e => hi e.symm
        simp [zfld, zw, upd, this]
      | some t => rfl
theorem zset_obj {dA : Nat → ClassId} {ad : Nat → Nat} {M : ZM} {a ci j : Nat} {fs : List (Option Nat)} {x : Int32} (hy : zLay[a]? = some (.inr (.inr (ci, fs)))) (h : fs[j]? = some none) : (zwd dA ad M).set a (ad a, .inr (ci, (fs.mapIdx (zfld M ad a)).set j (.int x))) = zwd dA ad (zw M a j x) :=
  zwd_set hy (by simp only [zcell, zfld_set h]) (fun k hk => ⟨by simp [zw, hk], rfl⟩)
theorem zset_int {dA : Nat → ClassId} {ad : Nat → Nat} {M : ZM} {a t n : Nat} {i : Nat} {x : Int32} (ht : ¬ t = 1) (hy : zLay[a]? = some (.inl (t, n))) : (zwd dA ad M).set a (ad a, .inl (dA t, n, .inl (upd (M.1 a) i x))) = zwd dA ad (zw M a i x) :=
  zwd_set hy (by simp [zcell, ht, zw]) (fun k hk => ⟨by simp [zw, hk], rfl⟩)
theorem zset_long {dA : Nat → ClassId} {ad : Nat → Nat} {M : ZM} {a n : Nat} {i : Nat} {x : Int64} (hy : zLay[a]? = some (.inl (1, n))) : (zwd dA ad M).set a (ad a, .inl (dA 1, n, .inr (.inl (vp_updL (M.2 a) i x)))) = zwd dA ad (zwl M a i x) :=
  zwd_set hy (by simp [zcell, zwl]) (fun k hk => ⟨rfl, by simp [zwl, hk]⟩)
theorem zset_cpy {dA : Nat → ClassId} {ad : Nat → Nat} {M : ZM} {a b n : Nat} {sp dp len : Nat} (hy : zLay[b]? = some (.inl (0, n))) : (zwd dA ad M).set b (ad b, .inl (dA 0, n, .inl (va_cpy (M.1 a) (M.1 b) sp dp len))) = zwd dA ad (zcp M a sp b dp len) :=
  zwd_set hy (by simp [zcell, zcp]) (fun k hk => ⟨by simp [zcp, hk], rfl⟩)
theorem zat_int {dA : Nat → ClassId} {ad : Nat → Nat} {M : ZM} {a t n : Nat} (ht : ¬ t = 1) (hy : zLay[a]? = some (.inl (t, n))) : (zwd dA ad M)[a]? = some (ad a, .inl (dA t, n, .inl (M.1 a))) := by
  rw [zwd_at hy]
  simp [zcell, ht]
theorem zat_long {dA : Nat → ClassId} {ad : Nat → Nat} {M : ZM} {a n : Nat} (hy : zLay[a]? = some (.inl (1, n))) : (zwd dA ad M)[a]? = some (ad a, .inl (dA 1, n, .inr (.inl (M.2 a)))) := by
  rw [zwd_at hy]
  simp [zcell]
def zo_get (ci j n : Nat) : ZP := fun E k lo st M => match st with | .ref a :: r => zck (zfi a ci j) (k n lo (.int (M.1 a j) :: r) M) | _ => none
def zo_getr (ci j n : Nat) : ZP := fun E k lo st M => match st with | .ref a :: r => zck (zfr a ci j) (k n lo (.ref (zrf a j) :: r) M) | _ => none
def zo_put (ci j n : Nat) : ZP := fun E k lo st M => match st with | .int x :: .ref a :: r => zck (zfi a ci j) (k n lo r (zw M a j x)) | _ => none
def zo_putz (ci j n : Nat) : ZP := fun E k lo st M => match st with | .int x :: .ref a :: r => zck (zfi a ci j && zb01 x) (k n lo r (zw M a j x)) | _ => none
set_option maxHeartbeats 1000000 in
theorem zk_get {mt : Nat → Option ZT} {cc : ByteArray} {own : String} {rk pc : Nat} {ci j idx : Nat} {C : String} {T : u_T} {N : Nat} (hc : vwCl[ci]? = some (C, T, N)) (hin : ∀ w ∈ u_ws C T N, w ∈ zTB) (hj : j < N) (hm : Cond.fieldLink own idx (T j).1 (T j).2.1 (T j).2.2.1 ∈ zTB) (hd : decode cc pc = .ok (.getfield idx, 3)) : ZOK mt cc own rk pc (zo_get ci j (pc + 3)) := by
  intro p l e R s m args below meth c nL D dA ad A cells slots Q d E hC hE k lo st M o ho hk hr H locs ls hP hS hL hlen
  obtain ⟨hx, hb, hml, hown, hts, hnl, hK, hAd, hSt, hR⟩ := hC
  unfold zo_get at ho
  split at ho
  · rename_i a r
    obtain ⟨h1, ho⟩ := zck_some ho
    obtain ⟨fs, hy, hf⟩ := zfi_spec h1
    exact va_get hx hb hts hin hown hK hP a (zwd_at hy) hc j hj (hts _ hm) (fun _ h => h) (v := .int (M.1 a j)) (by rw [List.getElem?_mapIdx, hf]; rfl) hd (hk _ _ _ _ ho H locs ls hP hS hL hlen)
  · cases ho
set_option maxHeartbeats 1000000 in
theorem zk_getr {mt : Nat → Option ZT} {cc : ByteArray} {own : String} {rk pc : Nat} {ci j idx : Nat} {C : String} {T : u_T} {N : Nat} (hc : vwCl[ci]? = some (C, T, N)) (hin : ∀ w ∈ u_ws C T N, w ∈ zTB) (hj : j < N) (hm : Cond.fieldLink own idx (T j).1 (T j).2.1 (T j).2.2.1 ∈ zTB) (hd : decode cc pc = .ok (.getfield idx, 3)) : ZOK mt cc own rk pc (zo_getr ci j (pc + 3)) := by
  intro p l e R s m args below meth c nL D dA ad A cells slots Q d E hC hE k lo st M o ho hk hr H locs ls hP hS hL hlen
  obtain ⟨hx, hb, hml, hown, hts, hnl, hK, hAd, hSt, hR⟩ := hC
  unfold zo_getr at ho
  split at ho
  · rename_i a r
    obtain ⟨h1, ho⟩ := zck_some ho
    obtain ⟨fs, hy, hf⟩ := zfr_spec h1
    exact va_get hx hb hts hin hown hK hP a (zwd_at hy) hc j hj (hts _ hm) (fun _ h => h) (v := .ref (ad (zrf a j))) (by rw [List.getElem?_mapIdx, hf]; rfl) hd (hk _ _ _ _ ho H locs ls hP hS hL hlen)
  · cases ho
set_option maxHeartbeats 1000000 in
theorem zk_put {mt : Nat → Option ZT} {cc : ByteArray} {own : String} {rk pc : Nat} {ci j idx : Nat} {C : String} {T : u_T} {N : Nat} (hc : vwCl[ci]? = some (C, T, N)) (hin : ∀ w ∈ u_ws C T N, w ∈ zTB) (hj : j < N) (hm : Cond.fieldLink own idx (T j).1 (T j).2.1 (T j).2.2.1 ∈ zTB) (ty : Nat → FieldType) (hty : ∀ k, k < N → parseFieldDescriptor (T k).2.2.1 = some (ty k)) (hnm : ∀ a, a < N → ∀ b, b < N → a ≠ b → (T a).2.1 ≠ (T b).2.1) (hfin : (T j).2.2.2 = false) (hde : parseFieldDescriptor (T j).2.2.1 = some .int) (hd : decode cc pc = .ok (.putfield idx, 3)) : ZOK mt cc own rk pc (zo_put ci j (pc + 3)) := by
  intro p l e R s m args below meth c nL D dA ad A cells slots Q d E hC hE k lo st M o ho hk hr H locs ls hP hS hL hlen
  obtain ⟨hx, hb, hml, hown, hts, hnl, hK, hAd, hSt, hR⟩ := hC
  unfold zo_put at ho
  split at ho
  · rename_i x a r
    obtain ⟨h1, ho⟩ := zck_some ho
    obtain ⟨fs, hy, hf⟩ := zfi_spec h1
    refine va_put (v := .int x) hx hb hts hin ty hty hnm hown hK hP (zD hAd M) hS a (zwd_at hy) hc j hj (hts _ hm) (fun _ h => h) hfin hde rfl rfl ?_ hd (fun H1 locs1 hP1 hD1 hS1 => ?_)
    · rw [List.length_mapIdx]
      exact (List.getElem?_eq_some_iff.mp hf).1
    · rw [zset_obj hy hf] at hP1
      exact hk _ _ _ _ ho H1 locs1 ls hP1 hS1 hL hlen
  · cases ho
set_option maxHeartbeats 1000000 in
theorem zk_putz {mt : Nat → Option ZT} {cc : ByteArray} {own : String} {rk pc : Nat} {ci j idx : Nat} {C : String} {T : u_T} {N : Nat} (hc : vwCl[ci]? = some (C, T, N)) (hin : ∀ w ∈ u_ws C T N, w ∈ zTB) (hj : j < N) (hm : Cond.fieldLink own idx (T j).1 (T j).2.1 (T j).2.2.1 ∈ zTB) (ty : Nat → FieldType) (hty : ∀ k, k < N → parseFieldDescriptor (T k).2.2.1 = some (ty k)) (hnm : ∀ a, a < N → ∀ b, b < N → a ≠ b → (T a).2.1 ≠ (T b).2.1) (hfin : (T j).2.2.2 = false) (hde : parseFieldDescriptor (T j).2.2.1 = some .boolean) (hd : decode cc pc = .ok (.putfield idx, 3)) : ZOK mt cc own rk pc (zo_putz ci j (pc + 3)) := by
  intro p l e R s m args below meth c nL D dA ad A cells slots Q d E hC hE k lo st M o ho hk hr H locs ls hP hS hL hlen
  obtain ⟨hx, hb, hml, hown, hts, hnl, hK, hAd, hSt, hR⟩ := hC
  unfold zo_putz at ho
  split at ho
  · rename_i x a r
    obtain ⟨h1, ho⟩ := zck_some ho
    simp only [Bool.and_eq_true] at h1
    obtain ⟨h1, h3⟩ := h1
    obtain ⟨fs, hy, hf⟩ := zfi_spec h1
    refine va_put (v := .int x) hx hb hts hin ty hty hnm hown hK hP (zD hAd M) hS a (zwd_at hy) hc j hj (hts _ hm) (fun _ h => h) hfin hde (zb01_nar h3).1 (zb01_nar h3).2.1 ?_ hd (fun H1 locs1 hP1 hD1 hS1 => ?_)
    · rw [List.length_mapIdx]
      exact (List.getElem?_eq_some_iff.mp hf).1
    · rw [zset_obj hy hf] at hP1
      exact hk _ _ _ _ ho H1 locs1 ls hP1 hS1 hL hlen
  · cases ho
set_option maxHeartbeats 1000000 in
theorem zk_getN {mt : Nat → Option ZT} {cc : ByteArray} {own : String} {rk pc : Nat} {ci j idx : Nat} {C : String} {T : u_T} {N : Nat} (hc : vwCl[ci]? = some (C, T, N)) (hin : ∀ w ∈ u_ws C T N, w ∈ zTB) (hj : j < N) {host : String} (hm : Cond.fieldLinkNest own idx (T j).1 (T j).2.1 (T j).2.2.1 host ∈ zNL) (hd : decode cc pc = .ok (.getfield idx, 3)) : ZOK mt cc own rk pc (zo_get ci j (pc + 3)) := by
  intro p l e R s m args below meth c nL D dA ad A cells slots Q d E hC hE k lo st M o ho hk hr H locs ls hP hS hL hlen
  obtain ⟨hx, hb, hml, hown, hts, hnl, hK, hAd, hSt, hR⟩ := hC
  unfold zo_get at ho
  split at ho
  · rename_i a r
    obtain ⟨h1, ho⟩ := zck_some ho
    obtain ⟨fs, hy, hf⟩ := zfi_spec h1
    exact va_getN hx hb hts hin hown hK hP a (zwd_at hy) hc j hj (zNw_use hm (hnl _ hm)) (fun _ h => h) (v := .int (M.1 a j)) (by rw [List.getElem?_mapIdx, hf]; rfl) hd (hk _ _ _ _ ho H locs ls hP hS hL hlen)
  · cases ho
set_option maxHeartbeats 1000000 in
theorem zk_getrN {mt : Nat → Option ZT} {cc : ByteArray} {own : String} {rk pc : Nat} {ci j idx : Nat} {C : String} {T : u_T} {N : Nat} (hc : vwCl[ci]? = some (C, T, N)) (hin : ∀ w ∈ u_ws C T N, w ∈ zTB) (hj : j < N) {host : String} (hm : Cond.fieldLinkNest own idx (T j).1 (T j).2.1 (T j).2.2.1 host ∈ zNL) (hd : decode cc pc = .ok (.getfield idx, 3)) : ZOK mt cc own rk pc (zo_getr ci j (pc + 3)) := by
  intro p l e R s m args below meth c nL D dA ad A cells slots Q d E hC hE k lo st M o ho hk hr H locs ls hP hS hL hlen
  obtain ⟨hx, hb, hml, hown, hts, hnl, hK, hAd, hSt, hR⟩ := hC
  unfold zo_getr at ho
  split at ho
  · rename_i a r
    obtain ⟨h1, ho⟩ := zck_some ho
    obtain ⟨fs, hy, hf⟩ := zfr_spec h1
    exact va_getN hx hb hts hin hown hK hP a (zwd_at hy) hc j hj (zNw_use hm (hnl _ hm)) (fun _ h => h) (v := .ref (ad (zrf a j))) (by rw [List.getElem?_mapIdx, hf]; rfl) hd (hk _ _ _ _ ho H locs ls hP hS hL hlen)
  · cases ho
set_option maxHeartbeats 1000000 in
theorem zk_putN {mt : Nat → Option ZT} {cc : ByteArray} {own : String} {rk pc : Nat} {ci j idx : Nat} {C : String} {T : u_T} {N : Nat} (hc : vwCl[ci]? = some (C, T, N)) (hin : ∀ w ∈ u_ws C T N, w ∈ zTB) (hj : j < N) {host : String} (hm : Cond.fieldLinkNest own idx (T j).1 (T j).2.1 (T j).2.2.1 host ∈ zNL) (ty : Nat → FieldType) (hty : ∀ k, k < N → parseFieldDescriptor (T k).2.2.1 = some (ty k)) (hnm : ∀ a, a < N → ∀ b, b < N → a ≠ b → (T a).2.1 ≠ (T b).2.1) (hfin : (T j).2.2.2 = false) (hde : parseFieldDescriptor (T j).2.2.1 = some .int) (hd : decode cc pc = .ok (.putfield idx, 3)) : ZOK mt cc own rk pc (zo_put ci j (pc + 3)) := by
  intro p l e R s m args below meth c nL D dA ad A cells slots Q d E hC hE k lo st M o ho hk hr H locs ls hP hS hL hlen
  obtain ⟨hx, hb, hml, hown, hts, hnl, hK, hAd, hSt, hR⟩ := hC
  unfold zo_put at ho
  split at ho
  · rename_i x a r
    obtain ⟨h1, ho⟩ := zck_some ho
    obtain ⟨fs, hy, hf⟩ := zfi_spec h1
    refine va_putN (v := .int x) hx hb hts hin ty hty hnm hown hK hP (zD hAd M) hS a (zwd_at hy) hc j hj (zNw_use hm (hnl _ hm)) (fun _ h => h) hfin hde rfl rfl ?_ hd (fun H1 locs1 hP1 hD1 hS1 => ?_)
    · rw [List.length_mapIdx]
      exact (List.getElem?_eq_some_iff.mp hf).1
    · rw [zset_obj hy hf] at hP1
      exact hk _ _ _ _ ho H1 locs1 ls hP1 hS1 hL hlen
  · cases ho
set_option maxHeartbeats 1000000 in
theorem zk_putzN {mt : Nat → Option ZT} {cc : ByteArray} {own : String} {rk pc : Nat} {ci j idx : Nat} {C : String} {T : u_T} {N : Nat} (hc : vwCl[ci]? = some (C, T, N)) (hin : ∀ w ∈ u_ws C T N, w ∈ zTB) (hj : j < N) {host : String} (hm : Cond.fieldLinkNest own idx (T j).1 (T j).2.1 (T j).2.2.1 host ∈ zNL) (ty : Nat → FieldType) (hty : ∀ k, k < N → parseFieldDescriptor (T k).2.2.1 = some (ty k)) (hnm : ∀ a, a < N → ∀ b, b < N → a ≠ b → (T a).2.1 ≠ (T b).2.1) (hfin : (T j).2.2.2 = false) (hde : parseFieldDescriptor (T j).2.2.1 = some .boolean) (hd : decode cc pc = .ok (.putfield idx, 3)) : ZOK mt cc own rk pc (zo_putz ci j (pc + 3)) := by
  intro p l e R s m args below meth c nL D dA ad A cells slots Q d E hC hE k lo st M o ho hk hr H locs ls hP hS hL hlen
  obtain ⟨hx, hb, hml, hown, hts, hnl, hK, hAd, hSt, hR⟩ := hC
  unfold zo_putz at ho
  split at ho
  · rename_i x a r
    obtain ⟨h1, ho⟩ := zck_some ho
    simp only [Bool.and_eq_true] at h1
    obtain ⟨h1, h3⟩ := h1
    obtain ⟨fs, hy, hf⟩ := zfi_spec h1
    refine va_putN (v := .int x) hx hb hts hin ty hty hnm hown hK hP (zD hAd M) hS a (zwd_at hy) hc j hj (zNw_use hm (hnl _ hm)) (fun _ h => h) hfin hde (zb01_nar h3).1 (zb01_nar h3).2.1 ?_ hd (fun H1 locs1 hP1 hD1 hS1 => ?_)
    · rw [List.length_mapIdx]
      exact (List.getElem?_eq_some_iff.mp hf).1
    · rw [zset_obj hy hf] at hP1
      exact hk _ _ _ _ ho H1 locs1 ls hP1 hS1 hL hlen
  · cases ho
def zo_iald (n : Nat) : ZP := fun E k lo st M => match st with | .int i :: .ref a :: r => zck (zty a 0 && zin i (zln a)) (k n lo (.int (M.1 a i.toNatClampNeg) :: r) M) | _ => none
def zo_zald (n : Nat) : ZP := fun E k lo st M => match st with | .int i :: .ref a :: r => zck (zty a 2 && zin i (zln a)) (k n lo (.int (M.1 a i.toNatClampNeg) :: r) M) | _ => none
def zo_lald (n : Nat) : ZP := fun E k lo st M => match st with | .int i :: .ref a :: r => zck (zty a 1 && zin i (zln a)) (k n lo (.long (M.2 a i.toNatClampNeg) :: r) M) | _ => none
def zo_aald (t n : Nat) : ZP := fun E k lo st M => match st with | .int i :: .ref a :: r => zck (ztr3 a t && zin i (zrl a)) (k n lo (.ref (zel a i.toNatClampNeg) :: r) M) | _ => none
def zo_iast (n : Nat) : ZP := fun E k lo st M => match st with | .int x :: .int i :: .ref a :: r => zck (zty a 0 && zin i (zln a)) (k n lo r (zw M a i.toNatClampNeg x)) | _ => none
def zo_zast (n : Nat) : ZP := fun E k lo st M => match st with | .int x :: .int i :: .ref a :: r => zck (zty a 2 && zin i (zln a) && zb01 x) (k n lo r (zw M a i.toNatClampNeg x)) | _ => none
def zo_last (n : Nat) : ZP := fun E k lo st M => match st with | .long x :: .int i :: .ref a :: r => zck (zty a 1 && zin i (zln a)) (k n lo r (zwl M a i.toNatClampNeg x)) | _ => none
def zo_alen (t n : Nat) : ZP := fun E k lo st M => match st with | .ref a :: r => zck (zty a t) (k n lo (.int (Int32.ofNat (zln a)) :: r) M) | _ => none
set_option maxHeartbeats 1000000 in
theorem zk_iaload {mt : Nat → Option ZT} {cc : ByteArray} {own : String} {rk pc : Nat} (hd : decode cc pc = .ok (.iaload, 1)) : ZOK mt cc own rk pc (zo_iald (pc + 1)) := by
  intro p l e R s m args below meth c nL D dA ad A cells slots Q d E hC hE k lo st M o ho hk hr H locs ls hP hS hL hlen
  obtain ⟨hx, hb, hml, hown, hts, hnl, hK, hAd, hSt, hR⟩ := hC
  unfold zo_iald at ho
  split at ho
  · rename_i i a r
    obtain ⟨h1, ho⟩ := zck_some ho
    simp only [Bool.and_eq_true] at h1
    exact va_iald hx hb hK hP a 0 (zat_int (by decide) (zty_spec h1.1)) rfl (zin_in h1.2) hd (hk _ _ _ _ ho H locs ls hP hS hL hlen)
  · cases ho
set_option maxHeartbeats 1000000 in
theorem zk_baloadz {mt : Nat → Option ZT} {cc : ByteArray} {own : String} {rk pc : Nat} (hd : decode cc pc = .ok (.baload, 1)) : ZOK mt cc own rk pc (zo_zald (pc + 1)) := by
  intro p l e R s m args below meth c nL D dA ad A cells slots Q d E hC hE k lo st M o ho hk hr H locs ls hP hS hL hlen
  obtain ⟨hx, hb, hml, hown, hts, hnl, hK, hAd, hSt, hR⟩ := hC
  unfold zo_zald at ho
  split at ho
  · rename_i i a r
    obtain ⟨h1, ho⟩ := zck_some ho
    simp only [Bool.and_eq_true] at h1
    exact va_zald hx hb hK hP a 2 (zat_int (by decide) (zty_spec h1.1)) rfl (zin_in h1.2) hd (hk _ _ _ _ ho H locs ls hP hS hL hlen)
  · cases ho
set_option maxHeartbeats 1000000 in
theorem zk_laload {mt : Nat → Option ZT} {cc : ByteArray} {own : String} {rk pc : Nat} (hd : decode cc pc = .ok (.laload, 1)) : ZOK mt cc own rk pc (zo_lald (pc + 1)) := by
  intro p l e R s m args below meth c nL D dA ad A cells slots Q d E hC hE k lo st M o ho hk hr H locs ls hP hS hL hlen
  obtain ⟨hx, hb, hml, hown, hts, hnl, hK, hAd, hSt, hR⟩ := hC
  unfold zo_lald at ho
  split at ho
  · rename_i i a r
    obtain ⟨h1, ho⟩ := zck_some ho
    simp only [Bool.and_eq_true] at h1
    exact va_lald hx hb hK hP a 1 (zat_long (zty_spec h1.1)) rfl (zin_in h1.2) hd (hk _ _ _ _ ho H locs ls hP hS hL hlen)
  · cases ho
set_option maxHeartbeats 1000000 in
theorem zk_aaload {mt : Nat → Option ZT} {cc : ByteArray} {own : String} {rk pc : Nat} {t : Nat} {C : String} (ht : ∀ dA, (zTys dA)[t]? = some (dA t, .object C)) (hd : decode cc pc = .ok (.aaload, 1)) : ZOK mt cc own rk pc (zo_aald t (pc + 1)) := by
  intro p l e R s m args below meth c nL D dA ad A cells slots Q d E hC hE k lo st M o ho hk hr H locs ls hP hS hL hlen
  obtain ⟨hx, hb, hml, hown, hts, hnl, hK, hAd, hSt, hR⟩ := hC
  unfold zo_aald at ho
  split at ho
  · rename_i i a r
    obtain ⟨h1, ho⟩ := zck_some ho
    simp only [Bool.and_eq_true] at h1
    obtain ⟨ts, hy, hl1, hl2⟩ := ztr3_spec h1.1
    have h3 := zin_in h1.2
    have hlt : i.toNatClampNeg < zrl a := Nat.not_le.mp fun q => h3 (Or.inr q)
    refine va_aldq hx hb hK hP a t (zwd_at hy) (ht dA) (by rw [hl1]; exact h3) hd ?_
    rw [hl2 _ hlt]
    exact hk _ _ _ _ ho H locs ls hP hS hL hlen
  · cases ho
set_option maxHeartbeats 1000000 in
theorem zk_iastore {mt : Nat → Option ZT} {cc : ByteArray} {own : String} {rk pc : Nat} (hd : decode cc pc = .ok (.iastore, 1)) : ZOK mt cc own rk pc (zo_iast (pc + 1)) := by
  intro p l e R s m args below meth c nL D dA ad A cells slots Q d E hC hE k lo st M o ho hk hr H locs ls hP hS hL hlen
  obtain ⟨hx, hb, hml, hown, hts, hnl, hK, hAd, hSt, hR⟩ := hC
  unfold zo_iast at ho
  split at ho
  · rename_i x i a r
    obtain ⟨h1, ho⟩ := zck_some ho
    simp only [Bool.and_eq_true] at h1
    refine va_iast hx hb hK hP (zD hAd M) hS a 0 (zat_int (by decide) (zty_spec h1.1)) rfl (zin_in h1.2) hd (fun H1 locs1 hP1 hD1 hS1 => ?_)
    rw [zset_int (by decide) (zty_spec h1.1)] at hP1
    exact hk _ _ _ _ ho H1 locs1 ls hP1 hS1 hL hlen
  · cases ho
set_option maxHeartbeats 1000000 in
theorem zk_lastore {mt : Nat → Option ZT} {cc : ByteArray} {own : String} {rk pc : Nat} (hd : decode cc pc = .ok (.lastore, 1)) : ZOK mt cc own rk pc (zo_last (pc + 1)) := by
  intro p l e R s m args below meth c nL D dA ad A cells slots Q d E hC hE k lo st M o ho hk hr H locs ls hP hS hL hlen
  obtain ⟨hx, hb, hml, hown, hts, hnl, hK, hAd, hSt, hR⟩ := hC
  unfold zo_last at ho
  split at ho
  · rename_i x i a r
    obtain ⟨h1, ho⟩ := zck_some ho
    simp only [Bool.and_eq_true] at h1
    refine va_last hx hb hK hP (zD hAd M) hS a 1 (zat_long (zty_spec h1.1)) rfl (zin_in h1.2) hd (fun H1 locs1 hP1 hD1 hS1 => ?_)
    rw [zset_long (zty_spec h1.1)] at hP1
    exact hk _ _ _ _ ho H1 locs1 ls hP1 hS1 hL hlen
  · cases ho
set_option maxHeartbeats 1000000 in
theorem zk_bastorez {mt : Nat → Option ZT} {cc : ByteArray} {own : String} {rk pc : Nat} (hd : decode cc pc = .ok (.bastore, 1)) : ZOK mt cc own rk pc (zo_zast (pc + 1)) := by
  intro p l e R s m args below meth c nL D dA ad A cells slots Q d E hC hE k lo st M o ho hk hr H locs ls hP hS hL hlen
  obtain ⟨hx, hb, hml, hown, hts, hnl, hK, hAd, hSt, hR⟩ := hC
  unfold zo_zast at ho
  split at ho
  · rename_i x i a r
    obtain ⟨h1, ho⟩ := zck_some ho
    simp only [Bool.and_eq_true] at h1
    refine va_zast hx hb hK hP (zD hAd M) hS a 2 (zat_int (by decide) (zty_spec h1.1.1)) rfl (zin_in h1.1.2) hd (fun H1 locs1 hP1 hD1 hS1 => ?_)
    rw [(zb01_nar h1.2).2.2, zset_int (by decide) (zty_spec h1.1.1)] at hP1
    exact hk _ _ _ _ ho H1 locs1 ls hP1 hS1 hL hlen
  · cases ho
set_option maxHeartbeats 1000000 in
theorem zk_alen {mt : Nat → Option ZT} {cc : ByteArray} {own : String} {rk pc : Nat} {t : Nat} {ty : FieldType} (ht : ∀ dA, (zTys dA)[t]? = some (dA t, ty)) (hd : decode cc pc = .ok (.arraylength, 1)) : ZOK mt cc own rk pc (zo_alen t (pc + 1)) := by
  intro p l e R s m args below meth c nL D dA ad A cells slots Q d E hC hE k lo st M o ho hk hr H locs ls hP hS hL hlen
  obtain ⟨hx, hb, hml, hown, hts, hnl, hK, hAd, hSt, hR⟩ := hC
  unfold zo_alen at ho
  split at ho
  · rename_i a r
    obtain ⟨h1, ho⟩ := zck_some ho
    exact va_alen hx hb hK hP a t (zwd_at (zty_spec h1)) (ht dA) rfl hd (hk _ _ _ _ ho H locs ls hP hS hL hlen)
  · cases ho
def zo_gst (id n : Nat) : ZP := fun E k lo st M => k n lo (.ref id :: st) M
def zo_sald (id : Nat) (xs : List Int32) (n : Nat) : ZP := fun E k lo st M => match st with | .int i :: .ref a :: r => zck (a == id && zin i xs.length) (k n lo (.int (xs.getD i.toNatClampNeg 0) :: r) M) | _ => none
set_option maxHeartbeats 1000000 in
theorem zk_getstatic {mt : Nat → Option ZT} {cc : ByteArray} {own : String} {rk pc : Nat} {id idx : Nat} {C nm : String} {xs : List Int32} (hz : ∀ {ad : Nat → Nat} {A : Nat → Prop} {U : State} {H : Heap}, zSt ad A U H → zS1 ad A U H id C nm xs) (hm : Cond.fieldLink own idx C nm "[I" ∈ zTB) (hd : decode cc pc = .ok (.getstatic idx, 3)) : ZOK mt cc own rk pc (zo_gst id (pc + 3)) := by
  intro p l e R s m args below meth c nL D dA ad A cells slots Q d E hC hE k lo st M o ho hk hr H locs ls hP hS hL hlen
  obtain ⟨hx, hb, hml, hown, hts, hnl, hK, hAd, hSt, hR⟩ := hC
  exact va_gets hx hb (hz hSt).1 hS hown (hts _ hm) (fun _ h => h) hd (hk _ _ _ _ ho H locs ls hP hS hL hlen)
set_option maxHeartbeats 1000000 in
theorem zk_sald {mt : Nat → Option ZT} {cc : ByteArray} {own : String} {rk pc : Nat} {id : Nat} {C nm : String} {xs : List Int32} (hz : ∀ {ad : Nat → Nat} {A : Nat → Prop} {U : State} {H : Heap}, zSt ad A U H → zS1 ad A U H id C nm xs) (hd : decode cc pc = .ok (.iaload, 1)) : ZOK mt cc own rk pc (zo_sald id xs (pc + 1)) := by
  intro p l e R s m args below meth c nL D dA ad A cells slots Q d E hC hE k lo st M o ho hk hr H locs ls hP hS hL hlen
  obtain ⟨hx, hb, hml, hown, hts, hnl, hK, hAd, hSt, hR⟩ := hC
  unfold zo_sald at ho
  split at ho
  · rename_i i a r
    obtain ⟨h1, ho2⟩ := zck_some ho
    simp only [Bool.and_eq_true, beq_iff_eq] at h1
    obtain ⟨rfl, h2⟩ := h1
    exact va_ti hx hb (hz hSt).2 hS (zin_in h2) rfl hd (hk _ _ _ _ ho2 H locs ls hP hS hL hlen)
  · cases ho
def zsw (k : Nat → Option ZO) (x : Int32) (dflt : Nat) : List (Int32 × Nat) → Option ZO
  | [] => k dflt
  | (v, t) :: r => if x = v then k t else zsw k x dflt r
def zo_sw (ps : List (Int32 × Nat)) (d : Nat) : ZP := fun E k lo st M => match st with | .int x :: r => zsw (fun t => k t lo r M) x d ps | _ => none
theorem zsw_spec {k : Nat → Option ZO} {x : Int32} {d : Nat} {o : ZO} : ∀ {ps : List (Int32 × Nat)}, zsw k x d ps = some o → (∃ q ∈ ps, x = q.1 ∧ k q.2 = some o) ∨ ((∀ q ∈ ps, ¬ x = q.1) ∧ k d = some o)
  | [], h => Or.inr ⟨fun q hq => (List.not_mem_nil hq).elim, h⟩
  | (v, t) :: r, h => by
    unfold zsw at h
    split at h
    · rename_i e
      exact Or.inl ⟨(v, t), List.mem_cons_self, e, h⟩
    · rename_i e
      rcases zsw_spec h with ⟨q, hq, h1, h2⟩ | ⟨h1, h2⟩
      · exact Or.inl ⟨q, List.mem_cons_of_mem _ hq, h1, h2⟩
      · refine Or.inr ⟨fun q hq => ?_, h2⟩
        rcases List.mem_cons.mp hq with rfl | hq
        · exact e
        · exact h1 q hq
/-- the pairs of a table: each number from lo on with its target -/
def ztabOK (pc : Nat) (dflt lo hi : Int) (offs : Array Int) (ps : List (Int32 × Nat)) (d : Nat) : Bool :=
  decide ((pc : Int) + dflt = (d : Int)) && (ps.all fun q => decide (lo ≤ q.1.toInt) && decide (q.1.toInt ≤ hi) && (match offs[(q.1.toInt - lo).toNat]? with | some off => decide ((pc : Int) + off = (q.2 : Int)) | none => false)) && decide (hi = lo + ps.length - 1) && decide (0 < ps.length) && decide (-1000 ≤ lo ∧ hi ≤ 1000) && (ps.zipIdx.all fun q => decide (q.1.1.toInt = lo + q.2))
set_option maxHeartbeats 1000000 in
theorem zk_table {mt : Nat → Option ZT} {cc : ByteArray} {own : String} {rk pc : Nat} {dflt lw hi : Int} {offs : Array Int} {ps : List (Int32 × Nat)} {dt len : Nat} (ht : ztabOK pc dflt lw hi offs ps dt = true) (hd : decode cc pc = .ok (.tableswitch dflt lw hi offs, len)) : ZOK mt cc own rk pc (zo_sw ps dt) := by
  intro p l e R s m args below meth c nL D dA ad A cells slots Q d E hC hE k lo st M o ho hk hr H locs ls hP hS hL hlen
  obtain ⟨hx, hb, hml, hown, hts, hnl, hK, hAd, hSt, hR⟩ := hC
  unfold zo_sw at ho
  split at ho
  · rename_i x r
    simp only [ztabOK, Bool.and_eq_true, decide_eq_true_eq, List.all_eq_true] at ht
    obtain ⟨⟨⟨⟨⟨t1, t2⟩, t3⟩, t4⟩, t5⟩, t6⟩ := ht
    rcases zsw_spec ho with ⟨q, hq, h1, h2⟩ | ⟨h1, h2⟩
    · obtain ⟨⟨u1, u2⟩, u3⟩ := t2 q hq
      subst h1
      split at u3
      · rename_i off hoff
        exact lv_tableIn hx hb hd (by omega) (by omega) hoff (by simpa using u3) (hk _ _ _ _ h2 H locs ls hP hS hL hlen)
      · cases u3
    · refine lv_tableOut hx hb hd ?_ t1 (hk _ _ _ _ h2 H locs ls hP hS hL hlen)
      refine Classical.byContradiction fun hn => ?_
      have hn1 : lw ≤ x.toInt := by omega
      have hn2 : x.toInt ≤ hi := by omega
      have hlt : (x.toInt - lw).toNat < ps.length := by omega
      have hm : (ps[(x.toInt - lw).toNat], (x.toInt - lw).toNat) ∈ ps.zipIdx := by
        rw [List.mem_zipIdx_iff_getElem?]
        exact List.getElem?_eq_getElem hlt
      have h6 := t6 _ hm
      dsimp only at h6
      refine h1 _ (List.getElem_mem hlt) (Int32.toInt_inj.mp ?_)
      rw [h6]
      omega
  · cases ho
/-- the pairs of a lookup -/
def zlkOK (pc : Nat) (dflt : Int) (os : List (Int × Int)) (ps : List (Int32 × Nat)) (d : Nat) : Bool :=
  decide ((pc : Int) + dflt = (d : Int)) && decide (ps.map (fun q => q.1.toInt) = os.map (fun q => q.1)) && decide (ps.map (fun q => (q.2 : Int)) = os.map (fun q => (pc : Int) + q.2))
section ZC
variable {D : va_G} {dA : Nat → ClassId} {ad : Nat → Nat} {A : Nat → Prop}
theorem zPc_blind (as : List Value) (M : ZM) : FrameBlind (zPc D dA ad A as M) := by
  intro a U g mk q
  obtain ⟨q0, qP, qK, qN, qS⟩ := q
  exact ⟨q0, qP, va_K.moved (u := U) (U := U.calling g mk a) (Vm.Alike.refl U.vm) qK, fun w hw => zNw_same (s := U) (U := U.calling g mk a) hw rfl (qN w hw), qS.moved (U := U.calling g mk a) (Vm.Alike.refl U.vm) (fun _ _ _ => rfl)⟩
theorem zPc_here {s U : State} {H : Heap} {locs : List Loc} {as : List Value} {M : ZM} {av : Array Value} (ha : av = (as.map (ztr ad)).toArray) (hK : va_K D vwCl (zTys dA) s) (hnl : ∀ w ∈ zNL, va_Nw w s) (hSt : zSt ad A s s.heap) (hP : va_P D vwCl (zwd dA ad M) H) (hS : va_S A s.heap H locs) (hU : U.heap = H) (hW : s.WarmedH U.vm) : zPc D dA ad A as M av U :=
  ⟨ha, by rw [hU]; exact hP, va_K.moved hW.alike hK, fun w hw => zNw_warm hw hW (hnl w hw), hSt.moved hW.alike (fun a h1 h2 => by rw [hU]; exact hS.2.1 a h1 h2)⟩
theorem zstk {st : List Value} {n : Nat} : st.map (ztr ad) = ((st.take n).reverse.map (ztr ad)).reverse ++ (st.drop n).map (ztr ad) := by
  rw [← List.map_reverse, List.reverse_reverse, ← List.map_append, List.take_append_drop]
end ZC
def zo_csi (y n nx : Nat) : ZP := fun E k lo st M => zck (decide (n ≤ st.length) && decide (((st.drop n).map fun v => v.category).sum ≤ 8)) ((E.1 y (st.take n).reverse M).bind fun q => k nx lo (.int q.1 :: st.drop n) q.2)
def zo_cvi (ci y n nx : Nat) : ZP := fun E k lo st M => match st.drop n with | .ref b :: r => zck (zis b ci && (decide (n ≤ st.length) && decide ((r.map fun v => v.category).sum ≤ 8))) ((E.1 y (.ref b :: (st.take n).reverse) M).bind fun q => k nx lo (.int q.1 :: r) q.2) | _ => none
set_option maxHeartbeats 1000000 in
theorem zk_csi {mt : Nat → Option ZT} {cc : ByteArray} {own : String} {rk pc : Nat} (y : Nat) {Y : MethodName} {by_ : ByteArray} {mL : Nat} {rt : Option FieldType} (hy : mt y = some (Y, by_, mL, rt)) {idx n : Nat} (hm : Cond.methodLink own idx Y ∈ zTB) (hst : Cond.static Y ∈ zTB) (hds : Y.cls ≠ "java/lang/invoke/MethodHandle" ∧ Y.cls ≠ "java/lang/invoke/VarHandle" ∧ (parseMethodDescriptor Y.desc).map (fun d => d.parameters.length) = some n) (hmL : mL ≤ 45) (hcd : Cond.code Y by_ mL rt ∈ zTB) (hini : Cond.initialized Y.cls ∈ zTB) (hd : decode cc pc = .ok (.invokestatic idx, 3)) : ZOK mt cc own rk pc (zo_csi y n (pc + 3)) := by
  intro p l e R s m args below meth c nL D dA ad A cells slots Q d E hC hE k lo st M o ho hk hr H locs ls hP hS hL hlen
  obtain ⟨hx, hb, hml, hown, hts, hnl, hK, hAd, hSt, hR⟩ := hC
  unfold zo_csi at ho
  obtain ⟨h1, ho⟩ := zck_some ho
  simp only [Bool.and_eq_true, decide_eq_true_eq] at h1
  obtain ⟨q, hq, ho⟩ := Option.bind_eq_some_iff.mp ho
  rcases q with ⟨r1, M1⟩
  have hM := (hE y _ hy _ _).1 r1 M1 hq
  refine va_calli (va_runS (rest := (st.drop n).map (ztr ad)) (As := (st.take n).reverse.map (ztr ad)) (n := n) ⟨hx, hb, hml, hown, hts⟩ hM ⟨callB_of n hts (zTB_cons hcd) rfl rfl rfl (hts _ hini) (hts _ hm) hds ⟨by simpa [zrm] using hR.1, by have := hR.2.1; simp only [zrm]; omega⟩, hts _ hst⟩ ⟨zPc_blind _ _, fun U hU hW => zPc_here rfl hK hnl hSt hP hS hU hW⟩ rfl (by simp; omega) hL.1 zstk (lv_room (by rw [ztr_sum]; exact h1.2)) hd ⟨hR.2.2.1, hR.2.2.2⟩) hS (fun q _ h => h) (fun q h => h) (fun r0 u t H1 locs1 ht hvm hp hB hz hk1 hS1 => ?_)
  subst hp
  exact hk _ _ _ _ ho H1 locs1 ls (by rw [← ht]; exact hB) hS1 hL hlen
set_option maxHeartbeats 1000000 in
theorem zk_cvi {mt : Nat → Option ZT} {cc : ByteArray} {own : String} {rk pc : Nat} (y : Nat) {Y : MethodName} {by_ : ByteArray} {mL : Nat} {rt : Option FieldType} (hy : mt y = some (Y, by_, mL, rt)) {idx n : Nat} {ci : Nat} {T : u_T} {N : Nat} (hc : vwCl[ci]? = some (Y.cls, T, N)) (hm : Cond.methodLink own idx Y ∈ zTB) (hin2 : Cond.instanceMethod Y ∈ zTB) (hsel : Cond.selects Y.cls Y Y ∈ zTB) (hds : Y.cls ≠ "java/lang/invoke/MethodHandle" ∧ Y.cls ≠ "java/lang/invoke/VarHandle" ∧ (parseMethodDescriptor Y.desc).map (fun d => d.parameters.length) = some n) (hmL : mL ≤ 45) (hcd : Cond.code Y by_ mL rt ∈ zTB) (hini : Cond.initialized Y.cls ∈ zTB) (hd : decode cc pc = .ok (.invokevirtual idx, 3)) : ZOK mt cc own rk pc (zo_cvi ci y n (pc + 3)) := by
  intro p l e R s m args below meth c nL D dA ad A cells slots Q d E hC hE k lo st M o ho hk hr H locs ls hP hS hL hlen
  obtain ⟨hx, hb, hml, hown, hts, hnl, hK, hAd, hSt, hR⟩ := hC
  unfold zo_cvi at ho
  split at ho
  · rename_i b r hdr
    obtain ⟨h1, ho⟩ := zck_some ho
    simp only [Bool.and_eq_true, decide_eq_true_eq] at h1
    obtain ⟨q, hq, ho⟩ := Option.bind_eq_some_iff.mp ho
    rcases q with ⟨r1, M1⟩
    have hM := (hE y _ hy _ _).1 r1 M1 hq
    obtain ⟨fs, hyb⟩ := zis_spec h1.1
    have hstk : st.map (ztr ad) = ((st.take n).reverse.map (ztr ad)).reverse ++ .ref (ad b) :: r.map (ztr ad) := by
      rw [zstk (n := n), hdr]
      rfl
    refine va_calli (va_runV (C := Y.cls) (b := ad b) (rest := r.map (ztr ad)) (As := (st.take n).reverse.map (ztr ad)) (n := n) ⟨hx, hb, hml, hown, hts⟩ hM ⟨callB_of n hts (zTB_cons hcd) rfl rfl rfl (hts _ hini) (hts _ hm) hds ⟨by simpa [zrm] using hR.1, by have := hR.2.1; simp only [zrm]; omega⟩, hts _ hin2, hts _ hsel⟩ ⟨zPc_blind _ _, va_recv hK hP hc (zwd_at hyb), fun U hU hW => zPc_here rfl hK hnl hSt hP hS hU hW⟩ rfl (by simp; omega) hL.1 hstk (lv_room (by rw [ztr_sum]; exact h1.2.2)) hd ⟨hR.2.2.1, hR.2.2.2⟩) hS (fun q _ h => h) (fun q h => h) (fun r0 u t H1 locs1 ht hvm hp hB hz hk1 hS1 => ?_)
    subst hp
    exact hk _ _ _ _ ho H1 locs1 ls (by rw [← ht]; exact hB) hS1 hL hlen
  · cases ho
set_option maxHeartbeats 1000000 in
theorem zk_csiN {mt : Nat → Option ZT} {cc : ByteArray} {own : String} {rk pc : Nat} (y : Nat) {Y : MethodName} {by_ : ByteArray} {mL : Nat} {rt : Option FieldType} (hy : mt y = some (Y, by_, mL, rt)) {idx n : Nat} {host : String} (hm : Cond.methodLinkNest own idx Y host ∈ zNL) (hst : Cond.static Y ∈ zTB) (hds : Y.cls ≠ "java/lang/invoke/MethodHandle" ∧ Y.cls ≠ "java/lang/invoke/VarHandle" ∧ (parseMethodDescriptor Y.desc).map (fun d => d.parameters.length) = some n) (hmL : mL ≤ 45) (hcd : Cond.code Y by_ mL rt ∈ zTB) (hini : Cond.initialized Y.cls ∈ zTB) (hd : decode cc pc = .ok (.invokestatic idx, 3)) : ZOK mt cc own rk pc (zo_csi y n (pc + 3)) := by
  intro p l e R s m args below meth c nL D dA ad A cells slots Q d E hC hE k lo st M o ho hk hr H locs ls hP hS hL hlen
  obtain ⟨hx, hb, hml, hown, hts, hnl, hK, hAd, hSt, hR⟩ := hC
  unfold zo_csi at ho
  obtain ⟨h1, ho⟩ := zck_some ho
  simp only [Bool.and_eq_true, decide_eq_true_eq] at h1
  obtain ⟨q, hq, ho⟩ := Option.bind_eq_some_iff.mp ho
  rcases q with ⟨r1, M1⟩
  have hM := (hE y _ hy _ _).1 r1 M1 hq
  refine va_calli (va_runSN (rest := (st.drop n).map (ztr ad)) (As := (st.take n).reverse.map (ztr ad)) (n := n) ⟨hx, hb, hml, hown, hts⟩ hM ⟨va_cnB n hts (zTB_cons hcd) rfl rfl rfl (hnl _ hm) (hts _ hini) hds ⟨by simpa [zrm] using hR.1, by have := hR.2.1; simp only [zrm]; omega⟩, hts _ hst, trivial⟩ ⟨zPc_blind _ _, fun U hU hW => zPc_here rfl hK hnl hSt hP hS hU hW⟩ rfl (by simp; omega) hL.1 zstk (lv_room (by rw [ztr_sum]; exact h1.2)) hd ⟨hR.2.2.1, hR.2.2.2⟩) hS (fun q _ h => h) (fun q h => h) (fun r0 u t H1 locs1 ht hvm hp hB hz hk1 hS1 => ?_)
  subst hp
  exact hk _ _ _ _ ho H1 locs1 ls (by rw [← ht]; exact hB) hS1 hL hlen
set_option maxHeartbeats 1000000 in
theorem zk_cviN {mt : Nat → Option ZT} {cc : ByteArray} {own : String} {rk pc : Nat} (y : Nat) {Y : MethodName} {by_ : ByteArray} {mL : Nat} {rt : Option FieldType} (hy : mt y = some (Y, by_, mL, rt)) {idx n : Nat} {ci : Nat} {T : u_T} {N : Nat} (hc : vwCl[ci]? = some (Y.cls, T, N)) {host : String} (hm : Cond.methodLinkNest own idx Y host ∈ zNL) (hin2 : Cond.instanceMethod Y ∈ zTB) (hsel : Cond.selects Y.cls Y Y ∈ zTB) (hds : Y.cls ≠ "java/lang/invoke/MethodHandle" ∧ Y.cls ≠ "java/lang/invoke/VarHandle" ∧ (parseMethodDescriptor Y.desc).map (fun d => d.parameters.length) = some n) (hmL : mL ≤ 45) (hcd : Cond.code Y by_ mL rt ∈ zTB) (hini : Cond.initialized Y.cls ∈ zTB) (hd : decode cc pc = .ok (.invokevirtual idx, 3)) : ZOK mt cc own rk pc (zo_cvi ci y n (pc + 3)) := by
  intro p l e R s m args below meth c nL D dA ad A cells slots Q d E hC hE k lo st M o ho hk hr H locs ls hP hS hL hlen
  obtain ⟨hx, hb, hml, hown, hts, hnl, hK, hAd, hSt, hR⟩ := hC
  unfold zo_cvi at ho
  split at ho
  · rename_i b r hdr
    obtain ⟨h1, ho⟩ := zck_some ho
    simp only [Bool.and_eq_true, decide_eq_true_eq] at h1
    obtain ⟨q, hq, ho⟩ := Option.bind_eq_some_iff.mp ho
    rcases q with ⟨r1, M1⟩
    have hM := (hE y _ hy _ _).1 r1 M1 hq
    obtain ⟨fs, hyb⟩ := zis_spec h1.1
    have hstk : st.map (ztr ad) = ((st.take n).reverse.map (ztr ad)).reverse ++ .ref (ad b) :: r.map (ztr ad) := by
      rw [zstk (n := n), hdr]
      rfl
    refine va_calli (va_runVN (C := Y.cls) (b := ad b) (rest := r.map (ztr ad)) (As := (st.take n).reverse.map (ztr ad)) (n := n) ⟨hx, hb, hml, hown, hts⟩ hM ⟨va_cnB n hts (zTB_cons hcd) rfl rfl rfl (hnl _ hm) (hts _ hini) hds ⟨by simpa [zrm] using hR.1, by have := hR.2.1; simp only [zrm]; omega⟩, hts _ hin2, hts _ hsel⟩ ⟨zPc_blind _ _, va_recv hK hP hc (zwd_at hyb), fun U hU hW => zPc_here rfl hK hnl hSt hP hS hU hW⟩ rfl (by simp; omega) hL.1 hstk (lv_room (by rw [ztr_sum]; exact h1.2.2)) hd ⟨hR.2.2.1, hR.2.2.2⟩) hS (fun q _ h => h) (fun q h => h) (fun r0 u t H1 locs1 ht hvm hp hB hz hk1 hS1 => ?_)
    subst hp
    exact hk _ _ _ _ ho H1 locs1 ls (by rw [← ht]; exact hB) hS1 hL hlen
  · cases ho
def zo_csl (y n nx : Nat) : ZP := fun E k lo st M => zck (decide (n ≤ st.length) && decide (((st.drop n).map fun v => v.category).sum ≤ 8)) ((E.2.1 y (st.take n).reverse M).bind fun q => k nx lo (.long q.1 :: st.drop n) q.2)
def zo_cvl (ci y n nx : Nat) : ZP := fun E k lo st M => match st.drop n with | .ref b :: r => zck (zis b ci && (decide (n ≤ st.length) && decide ((r.map fun v => v.category).sum ≤ 8))) ((E.2.1 y (.ref b :: (st.take n).reverse) M).bind fun q => k nx lo (.long q.1 :: r) q.2) | _ => none
set_option maxHeartbeats 1000000 in
theorem zk_csl {mt : Nat → Option ZT} {cc : ByteArray} {own : String} {rk pc : Nat} (y : Nat) {Y : MethodName} {by_ : ByteArray} {mL : Nat} {rt : Option FieldType} (hy : mt y = some (Y, by_, mL, rt)) {idx n : Nat} (hm : Cond.methodLink own idx Y ∈ zTB) (hst : Cond.static Y ∈ zTB) (hds : Y.cls ≠ "java/lang/invoke/MethodHandle" ∧ Y.cls ≠ "java/lang/invoke/VarHandle" ∧ (parseMethodDescriptor Y.desc).map (fun d => d.parameters.length) = some n) (hmL : mL ≤ 45) (hcd : Cond.code Y by_ mL rt ∈ zTB) (hini : Cond.initialized Y.cls ∈ zTB) (hd : decode cc pc = .ok (.invokestatic idx, 3)) : ZOK mt cc own rk pc (zo_csl y n (pc + 3)) := by
  intro p l e R s m args below meth c nL D dA ad A cells slots Q d E hC hE k lo st M o ho hk hr H locs ls hP hS hL hlen
  obtain ⟨hx, hb, hml, hown, hts, hnl, hK, hAd, hSt, hR⟩ := hC
  unfold zo_csl at ho
  obtain ⟨h1, ho⟩ := zck_some ho
  simp only [Bool.and_eq_true, decide_eq_true_eq] at h1
  obtain ⟨q, hq, ho⟩ := Option.bind_eq_some_iff.mp ho
  rcases q with ⟨r1, M1⟩
  have hM := (hE y _ hy _ _).2.1 r1 M1 hq
  refine va_calll (va_runS (rest := (st.drop n).map (ztr ad)) (As := (st.take n).reverse.map (ztr ad)) (n := n) ⟨hx, hb, hml, hown, hts⟩ hM ⟨callB_of n hts (zTB_cons hcd) rfl rfl rfl (hts _ hini) (hts _ hm) hds ⟨by simpa [zrm] using hR.1, by have := hR.2.1; simp only [zrm]; omega⟩, hts _ hst⟩ ⟨zPc_blind _ _, fun U hU hW => zPc_here rfl hK hnl hSt hP hS hU hW⟩ rfl (by simp; omega) hL.1 zstk (lv_room (by rw [ztr_sum]; exact h1.2)) hd ⟨hR.2.2.1, hR.2.2.2⟩) hS (fun q _ h => h) (fun q h => h) (fun r0 u t H1 locs1 ht hvm hp hB hz hk1 hS1 => ?_)
  subst hp
  exact hk _ _ _ _ ho H1 locs1 ls (by rw [← ht]; exact hB) hS1 hL hlen
set_option maxHeartbeats 1000000 in
theorem zk_cvl {mt : Nat → Option ZT} {cc : ByteArray} {own : String} {rk pc : Nat} (y : Nat) {Y : MethodName} {by_ : ByteArray} {mL : Nat} {rt : Option FieldType} (hy : mt y = some (Y, by_, mL, rt)) {idx n : Nat} {ci : Nat} {T : u_T} {N : Nat} (hc : vwCl[ci]? = some (Y.cls, T, N)) (hm : Cond.methodLink own idx Y ∈ zTB) (hin2 : Cond.instanceMethod Y ∈ zTB) (hsel : Cond.selects Y.cls Y Y ∈ zTB) (hds : Y.cls ≠ "java/lang/invoke/MethodHandle" ∧ Y.cls ≠ "java/lang/invoke/VarHandle" ∧ (parseMethodDescriptor Y.desc).map (fun d => d.parameters.length) = some n) (hmL : mL ≤ 45) (hcd : Cond.code Y by_ mL rt ∈ zTB) (hini : Cond.initialized Y.cls ∈ zTB) (hd : decode cc pc = .ok (.invokevirtual idx, 3)) : ZOK mt cc own rk pc (zo_cvl ci y n (pc + 3)) := by
  intro p l e R s m args below meth c nL D dA ad A cells slots Q d E hC hE k lo st M o ho hk hr H locs ls hP hS hL hlen
  obtain ⟨hx, hb, hml, hown, hts, hnl, hK, hAd, hSt, hR⟩ := hC
  unfold zo_cvl at ho
  split at ho
  · rename_i b r hdr
    obtain ⟨h1, ho⟩ := zck_some ho
    simp only [Bool.and_eq_true, decide_eq_true_eq] at h1
    obtain ⟨q, hq, ho⟩ := Option.bind_eq_some_iff.mp ho
    rcases q with ⟨r1, M1⟩
    have hM := (hE y _ hy _ _).2.1 r1 M1 hq
    obtain ⟨fs, hyb⟩ := zis_spec h1.1
    have hstk : st.map (ztr ad) = ((st.take n).reverse.map (ztr ad)).reverse ++ .ref (ad b) :: r.map (ztr ad) := by
      rw [zstk (n := n), hdr]
      rfl
    refine va_calll (va_runV (C := Y.cls) (b := ad b) (rest := r.map (ztr ad)) (As := (st.take n).reverse.map (ztr ad)) (n := n) ⟨hx, hb, hml, hown, hts⟩ hM ⟨callB_of n hts (zTB_cons hcd) rfl rfl rfl (hts _ hini) (hts _ hm) hds ⟨by simpa [zrm] using hR.1, by have := hR.2.1; simp only [zrm]; omega⟩, hts _ hin2, hts _ hsel⟩ ⟨zPc_blind _ _, va_recv hK hP hc (zwd_at hyb), fun U hU hW => zPc_here rfl hK hnl hSt hP hS hU hW⟩ rfl (by simp; omega) hL.1 hstk (lv_room (by rw [ztr_sum]; exact h1.2.2)) hd ⟨hR.2.2.1, hR.2.2.2⟩) hS (fun q _ h => h) (fun q h => h) (fun r0 u t H1 locs1 ht hvm hp hB hz hk1 hS1 => ?_)
    subst hp
    exact hk _ _ _ _ ho H1 locs1 ls (by rw [← ht]; exact hB) hS1 hL hlen
  · cases ho
set_option maxHeartbeats 1000000 in
theorem zk_cslN {mt : Nat → Option ZT} {cc : ByteArray} {own : String} {rk pc : Nat} (y : Nat) {Y : MethodName} {by_ : ByteArray} {mL : Nat} {rt : Option FieldType} (hy : mt y = some (Y, by_, mL, rt)) {idx n : Nat} {host : String} (hm : Cond.methodLinkNest own idx Y host ∈ zNL) (hst : Cond.static Y ∈ zTB) (hds : Y.cls ≠ "java/lang/invoke/MethodHandle" ∧ Y.cls ≠ "java/lang/invoke/VarHandle" ∧ (parseMethodDescriptor Y.desc).map (fun d => d.parameters.length) = some n) (hmL : mL ≤ 45) (hcd : Cond.code Y by_ mL rt ∈ zTB) (hini : Cond.initialized Y.cls ∈ zTB) (hd : decode cc pc = .ok (.invokestatic idx, 3)) : ZOK mt cc own rk pc (zo_csl y n (pc + 3)) := by
  intro p l e R s m args below meth c nL D dA ad A cells slots Q d E hC hE k lo st M o ho hk hr H locs ls hP hS hL hlen
  obtain ⟨hx, hb, hml, hown, hts, hnl, hK, hAd, hSt, hR⟩ := hC
  unfold zo_csl at ho
  obtain ⟨h1, ho⟩ := zck_some ho
  simp only [Bool.and_eq_true, decide_eq_true_eq] at h1
  obtain ⟨q, hq, ho⟩ := Option.bind_eq_some_iff.mp ho
  rcases q with ⟨r1, M1⟩
  have hM := (hE y _ hy _ _).2.1 r1 M1 hq
  refine va_calll (va_runSN (rest := (st.drop n).map (ztr ad)) (As := (st.take n).reverse.map (ztr ad)) (n := n) ⟨hx, hb, hml, hown, hts⟩ hM ⟨va_cnB n hts (zTB_cons hcd) rfl rfl rfl (hnl _ hm) (hts _ hini) hds ⟨by simpa [zrm] using hR.1, by have := hR.2.1; simp only [zrm]; omega⟩, hts _ hst, trivial⟩ ⟨zPc_blind _ _, fun U hU hW => zPc_here rfl hK hnl hSt hP hS hU hW⟩ rfl (by simp; omega) hL.1 zstk (lv_room (by rw [ztr_sum]; exact h1.2)) hd ⟨hR.2.2.1, hR.2.2.2⟩) hS (fun q _ h => h) (fun q h => h) (fun r0 u t H1 locs1 ht hvm hp hB hz hk1 hS1 => ?_)
  subst hp
  exact hk _ _ _ _ ho H1 locs1 ls (by rw [← ht]; exact hB) hS1 hL hlen
set_option maxHeartbeats 1000000 in
theorem zk_cvlN {mt : Nat → Option ZT} {cc : ByteArray} {own : String} {rk pc : Nat} (y : Nat) {Y : MethodName} {by_ : ByteArray} {mL : Nat} {rt : Option FieldType} (hy : mt y = some (Y, by_, mL, rt)) {idx n : Nat} {ci : Nat} {T : u_T} {N : Nat} (hc : vwCl[ci]? = some (Y.cls, T, N)) {host : String} (hm : Cond.methodLinkNest own idx Y host ∈ zNL) (hin2 : Cond.instanceMethod Y ∈ zTB) (hsel : Cond.selects Y.cls Y Y ∈ zTB) (hds : Y.cls ≠ "java/lang/invoke/MethodHandle" ∧ Y.cls ≠ "java/lang/invoke/VarHandle" ∧ (parseMethodDescriptor Y.desc).map (fun d => d.parameters.length) = some n) (hmL : mL ≤ 45) (hcd : Cond.code Y by_ mL rt ∈ zTB) (hini : Cond.initialized Y.cls ∈ zTB) (hd : decode cc pc = .ok (.invokevirtual idx, 3)) : ZOK mt cc own rk pc (zo_cvl ci y n (pc + 3)) := by
  intro p l e R s m args below meth c nL D dA ad A cells slots Q d E hC hE k lo st M o ho hk hr H locs ls hP hS hL hlen
  obtain ⟨hx, hb, hml, hown, hts, hnl, hK, hAd, hSt, hR⟩ := hC
  unfold zo_cvl at ho
  split at ho
  · rename_i b r hdr
    obtain ⟨h1, ho⟩ := zck_some ho
    simp only [Bool.and_eq_true, decide_eq_true_eq] at h1
    obtain ⟨q, hq, ho⟩ := Option.bind_eq_some_iff.mp ho
    rcases q with ⟨r1, M1⟩
    have hM := (hE y _ hy _ _).2.1 r1 M1 hq
    obtain ⟨fs, hyb⟩ := zis_spec h1.1
    have hstk : st.map (ztr ad) = ((st.take n).reverse.map (ztr ad)).reverse ++ .ref (ad b) :: r.map (ztr ad) := by
      rw [zstk (n := n), hdr]
      rfl
    refine va_calll (va_runVN (C := Y.cls) (b := ad b) (rest := r.map (ztr ad)) (As := (st.take n).reverse.map (ztr ad)) (n := n) ⟨hx, hb, hml, hown, hts⟩ hM ⟨va_cnB n hts (zTB_cons hcd) rfl rfl rfl (hnl _ hm) (hts _ hini) hds ⟨by simpa [zrm] using hR.1, by have := hR.2.1; simp only [zrm]; omega⟩, hts _ hin2, hts _ hsel⟩ ⟨zPc_blind _ _, va_recv hK hP hc (zwd_at hyb), fun U hU hW => zPc_here rfl hK hnl hSt hP hS hU hW⟩ rfl (by simp; omega) hL.1 hstk (lv_room (by rw [ztr_sum]; exact h1.2.2)) hd ⟨hR.2.2.1, hR.2.2.2⟩) hS (fun q _ h => h) (fun q h => h) (fun r0 u t H1 locs1 ht hvm hp hB hz hk1 hS1 => ?_)
    subst hp
    exact hk _ _ _ _ ho H1 locs1 ls (by rw [← ht]; exact hB) hS1 hL hlen
  · cases ho
def zo_csv (y n nx : Nat) : ZP := fun E k lo st M => zck (decide (n ≤ st.length) && decide (((st.drop n).map fun v => v.category).sum ≤ 8)) ((E.2.2 y (st.take n).reverse M).bind fun q => k nx lo (st.drop n) q)
def zo_cvv (ci y n nx : Nat) : ZP := fun E k lo st M => match st.drop n with | .ref b :: r => zck (zis b ci && (decide (n ≤ st.length) && decide ((r.map fun v => v.category).sum ≤ 8))) ((E.2.2 y (.ref b :: (st.take n).reverse) M).bind fun q => k nx lo (r) q) | _ => none
set_option maxHeartbeats 1000000 in
theorem zk_csv {mt : Nat → Option ZT} {cc : ByteArray} {own : String} {rk pc : Nat} (y : Nat) {Y : MethodName} {by_ : ByteArray} {mL : Nat} {rt : Option FieldType} (hy : mt y = some (Y, by_, mL, rt)) {idx n : Nat} (hm : Cond.methodLink own idx Y ∈ zTB) (hst : Cond.static Y ∈ zTB) (hds : Y.cls ≠ "java/lang/invoke/MethodHandle" ∧ Y.cls ≠ "java/lang/invoke/VarHandle" ∧ (parseMethodDescriptor Y.desc).map (fun d => d.parameters.length) = some n) (hmL : mL ≤ 45) (hcd : Cond.code Y by_ mL rt ∈ zTB) (hini : Cond.initialized Y.cls ∈ zTB) (hd : decode cc pc = .ok (.invokestatic idx, 3)) : ZOK mt cc own rk pc (zo_csv y n (pc + 3)) := by
  intro p l e R s m args below meth c nL D dA ad A cells slots Q d E hC hE k lo st M o ho hk hr H locs ls hP hS hL hlen
  obtain ⟨hx, hb, hml, hown, hts, hnl, hK, hAd, hSt, hR⟩ := hC
  unfold zo_csv at ho
  obtain ⟨h1, ho⟩ := zck_some ho
  simp only [Bool.and_eq_true, decide_eq_true_eq] at h1
  obtain ⟨q, hq, ho⟩ := Option.bind_eq_some_iff.mp ho
  obtain ⟨M1, rfl⟩ : ∃ z, z = q := ⟨_, rfl⟩
  have hM := (hE y _ hy _ _).2.2 M1 hq
  refine va_callv (va_runS (rest := (st.drop n).map (ztr ad)) (As := (st.take n).reverse.map (ztr ad)) (n := n) ⟨hx, hb, hml, hown, hts⟩ hM ⟨callB_of n hts (zTB_cons hcd) rfl rfl rfl (hts _ hini) (hts _ hm) hds ⟨by simpa [zrm] using hR.1, by have := hR.2.1; simp only [zrm]; omega⟩, hts _ hst⟩ ⟨zPc_blind _ _, fun U hU hW => zPc_here rfl hK hnl hSt hP hS hU hW⟩ rfl (by simp; omega) hL.1 zstk (lv_room (by rw [ztr_sum]; exact h1.2)) hd ⟨hR.2.2.1, hR.2.2.2⟩) hS (fun q _ h => h) (fun q h => h) (fun u t H1 locs1 ht hvm hp hB hz hk1 hS1 => ?_)
  exact hk _ _ _ _ ho H1 locs1 ls (by rw [← ht]; exact hB) hS1 hL hlen
set_option maxHeartbeats 1000000 in
theorem zk_cvv {mt : Nat → Option ZT} {cc : ByteArray} {own : String} {rk pc : Nat} (y : Nat) {Y : MethodName} {by_ : ByteArray} {mL : Nat} {rt : Option FieldType} (hy : mt y = some (Y, by_, mL, rt)) {idx n : Nat} {ci : Nat} {T : u_T} {N : Nat} (hc : vwCl[ci]? = some (Y.cls, T, N)) (hm : Cond.methodLink own idx Y ∈ zTB) (hin2 : Cond.instanceMethod Y ∈ zTB) (hsel : Cond.selects Y.cls Y Y ∈ zTB) (hds : Y.cls ≠ "java/lang/invoke/MethodHandle" ∧ Y.cls ≠ "java/lang/invoke/VarHandle" ∧ (parseMethodDescriptor Y.desc).map (fun d => d.parameters.length) = some n) (hmL : mL ≤ 45) (hcd : Cond.code Y by_ mL rt ∈ zTB) (hini : Cond.initialized Y.cls ∈ zTB) (hd : decode cc pc = .ok (.invokevirtual idx, 3)) : ZOK mt cc own rk pc (zo_cvv ci y n (pc + 3)) := by
  intro p l e R s m args below meth c nL D dA ad A cells slots Q d E hC hE k lo st M o ho hk hr H locs ls hP hS hL hlen
  obtain ⟨hx, hb, hml, hown, hts, hnl, hK, hAd, hSt, hR⟩ := hC
  unfold zo_cvv at ho
  split at ho
  · rename_i b r hdr
    obtain ⟨h1, ho⟩ := zck_some ho
    simp only [Bool.and_eq_true, decide_eq_true_eq] at h1
    obtain ⟨q, hq, ho⟩ := Option.bind_eq_some_iff.mp ho
    obtain ⟨M1, rfl⟩ : ∃ z, z = q := ⟨_, rfl⟩
    have hM := (hE y _ hy _ _).2.2 M1 hq
    obtain ⟨fs, hyb⟩ := zis_spec h1.1
    have hstk : st.map (ztr ad) = ((st.take n).reverse.map (ztr ad)).reverse ++ .ref (ad b) :: r.map (ztr ad) := by
      rw [zstk (n := n), hdr]
      rfl
    refine va_callv (va_runV (C := Y.cls) (b := ad b) (rest := r.map (ztr ad)) (As := (st.take n).reverse.map (ztr ad)) (n := n) ⟨hx, hb, hml, hown, hts⟩ hM ⟨callB_of n hts (zTB_cons hcd) rfl rfl rfl (hts _ hini) (hts _ hm) hds ⟨by simpa [zrm] using hR.1, by have := hR.2.1; simp only [zrm]; omega⟩, hts _ hin2, hts _ hsel⟩ ⟨zPc_blind _ _, va_recv hK hP hc (zwd_at hyb), fun U hU hW => zPc_here rfl hK hnl hSt hP hS hU hW⟩ rfl (by simp; omega) hL.1 hstk (lv_room (by rw [ztr_sum]; exact h1.2.2)) hd ⟨hR.2.2.1, hR.2.2.2⟩) hS (fun q _ h => h) (fun q h => h) (fun u t H1 locs1 ht hvm hp hB hz hk1 hS1 => ?_)
    exact hk _ _ _ _ ho H1 locs1 ls (by rw [← ht]; exact hB) hS1 hL hlen
  · cases ho
set_option maxHeartbeats 1000000 in
theorem zk_csvN {mt : Nat → Option ZT} {cc : ByteArray} {own : String} {rk pc : Nat} (y : Nat) {Y : MethodName} {by_ : ByteArray} {mL : Nat} {rt : Option FieldType} (hy : mt y = some (Y, by_, mL, rt)) {idx n : Nat} {host : String} (hm : Cond.methodLinkNest own idx Y host ∈ zNL) (hst : Cond.static Y ∈ zTB) (hds : Y.cls ≠ "java/lang/invoke/MethodHandle" ∧ Y.cls ≠ "java/lang/invoke/VarHandle" ∧ (parseMethodDescriptor Y.desc).map (fun d => d.parameters.length) = some n) (hmL : mL ≤ 45) (hcd : Cond.code Y by_ mL rt ∈ zTB) (hini : Cond.initialized Y.cls ∈ zTB) (hd : decode cc pc = .ok (.invokestatic idx, 3)) : ZOK mt cc own rk pc (zo_csv y n (pc + 3)) := by
  intro p l e R s m args below meth c nL D dA ad A cells slots Q d E hC hE k lo st M o ho hk hr H locs ls hP hS hL hlen
  obtain ⟨hx, hb, hml, hown, hts, hnl, hK, hAd, hSt, hR⟩ := hC
  unfold zo_csv at ho
  obtain ⟨h1, ho⟩ := zck_some ho
  simp only [Bool.and_eq_true, decide_eq_true_eq] at h1
  obtain ⟨q, hq, ho⟩ := Option.bind_eq_some_iff.mp ho
  obtain ⟨M1, rfl⟩ : ∃ z, z = q := ⟨_, rfl⟩
  have hM := (hE y _ hy _ _).2.2 M1 hq
  refine va_callv (va_runSN (rest := (st.drop n).map (ztr ad)) (As := (st.take n).reverse.map (ztr ad)) (n := n) ⟨hx, hb, hml, hown, hts⟩ hM ⟨va_cnB n hts (zTB_cons hcd) rfl rfl rfl (hnl _ hm) (hts _ hini) hds ⟨by simpa [zrm] using hR.1, by have := hR.2.1; simp only [zrm]; omega⟩, hts _ hst, trivial⟩ ⟨zPc_blind _ _, fun U hU hW => zPc_here rfl hK hnl hSt hP hS hU hW⟩ rfl (by simp; omega) hL.1 zstk (lv_room (by rw [ztr_sum]; exact h1.2)) hd ⟨hR.2.2.1, hR.2.2.2⟩) hS (fun q _ h => h) (fun q h => h) (fun u t H1 locs1 ht hvm hp hB hz hk1 hS1 => ?_)
  exact hk _ _ _ _ ho H1 locs1 ls (by rw [← ht]; exact hB) hS1 hL hlen
set_option maxHeartbeats 1000000 in
theorem zk_cvvN {mt : Nat → Option ZT} {cc : ByteArray} {own : String} {rk pc : Nat} (y : Nat) {Y : MethodName} {by_ : ByteArray} {mL : Nat} {rt : Option FieldType} (hy : mt y = some (Y, by_, mL, rt)) {idx n : Nat} {ci : Nat} {T : u_T} {N : Nat} (hc : vwCl[ci]? = some (Y.cls, T, N)) {host : String} (hm : Cond.methodLinkNest own idx Y host ∈ zNL) (hin2 : Cond.instanceMethod Y ∈ zTB) (hsel : Cond.selects Y.cls Y Y ∈ zTB) (hds : Y.cls ≠ "java/lang/invoke/MethodHandle" ∧ Y.cls ≠ "java/lang/invoke/VarHandle" ∧ (parseMethodDescriptor Y.desc).map (fun d => d.parameters.length) = some n) (hmL : mL ≤ 45) (hcd : Cond.code Y by_ mL rt ∈ zTB) (hini : Cond.initialized Y.cls ∈ zTB) (hd : decode cc pc = .ok (.invokevirtual idx, 3)) : ZOK mt cc own rk pc (zo_cvv ci y n (pc + 3)) := by
  intro p l e R s m args below meth c nL D dA ad A cells slots Q d E hC hE k lo st M o ho hk hr H locs ls hP hS hL hlen
  obtain ⟨hx, hb, hml, hown, hts, hnl, hK, hAd, hSt, hR⟩ := hC
  unfold zo_cvv at ho
  split at ho
  · rename_i b r hdr
    obtain ⟨h1, ho⟩ := zck_some ho
    simp only [Bool.and_eq_true, decide_eq_true_eq] at h1
    obtain ⟨q, hq, ho⟩ := Option.bind_eq_some_iff.mp ho
    obtain ⟨M1, rfl⟩ : ∃ z, z = q := ⟨_, rfl⟩
    have hM := (hE y _ hy _ _).2.2 M1 hq
    obtain ⟨fs, hyb⟩ := zis_spec h1.1
    have hstk : st.map (ztr ad) = ((st.take n).reverse.map (ztr ad)).reverse ++ .ref (ad b) :: r.map (ztr ad) := by
      rw [zstk (n := n), hdr]
      rfl
    refine va_callv (va_runVN (C := Y.cls) (b := ad b) (rest := r.map (ztr ad)) (As := (st.take n).reverse.map (ztr ad)) (n := n) ⟨hx, hb, hml, hown, hts⟩ hM ⟨va_cnB n hts (zTB_cons hcd) rfl rfl rfl (hnl _ hm) (hts _ hini) hds ⟨by simpa [zrm] using hR.1, by have := hR.2.1; simp only [zrm]; omega⟩, hts _ hin2, hts _ hsel⟩ ⟨zPc_blind _ _, va_recv hK hP hc (zwd_at hyb), fun U hU hW => zPc_here rfl hK hnl hSt hP hS hU hW⟩ rfl (by simp; omega) hL.1 hstk (lv_room (by rw [ztr_sum]; exact h1.2.2)) hd ⟨hR.2.2.1, hR.2.2.2⟩) hS (fun q _ h => h) (fun q h => h) (fun u t H1 locs1 ht hvm hp hB hz hk1 hS1 => ?_)
    exact hk _ _ _ _ ho H1 locs1 ls (by rw [← ht]; exact hB) hS1 hL hlen
  · cases ho
def zo_cpy (n : Nat) : ZP := fun E k lo st M => match st with | [.int len, .int dp, .ref b, .int sp, .ref a] => zck (zty a 0 && zty b 0 && (!(decide (sp < 0)) && !(decide (dp < 0)) && !(decide (len < 0)) && decide (sp.toNatClampNeg + len.toNatClampNeg ≤ zln a) && decide (dp.toNatClampNeg + len.toNatClampNeg ≤ zln b))) (k n lo [] (zcp M a sp.toNatClampNeg b dp.toNatClampNeg len.toNatClampNeg)) | _ => none
set_option maxHeartbeats 1000000 in
theorem zk_cpy {mt : Nat → Option ZT} {cc : ByteArray} {own : String} {rk pc : Nat} {idx : Nat} (hm : Cond.methodLink own idx arraycopyName ∈ zTB) (hnat : Cond.native arraycopyName ∈ zTB) (hst : Cond.static arraycopyName ∈ zTB) (hini : Cond.initialized "java/lang/System" ∈ zTB) (hd : decode cc pc = .ok (.invokestatic idx, 3)) : ZOK mt cc own rk pc (zo_cpy (pc + 3)) := by
  intro p l e R s m args below meth c nL D dA ad A cells slots Q d E hC hE k lo st M o ho hk hr H locs ls hP hS hL hlen
  obtain ⟨hx, hb, hml, hown, hts, hnl, hK, hAd, hSt, hR⟩ := hC
  unfold zo_cpy at ho
  split at ho
  · rename_i len dp b sp a
    obtain ⟨h1, ho⟩ := zck_some ho
    simp only [Bool.and_eq_true, Bool.not_eq_true', decide_eq_false_iff_not, decide_eq_true_eq] at h1
    obtain ⟨⟨ha, hb2⟩, ⟨⟨⟨h2, h3⟩, h4⟩, h5⟩, h6⟩ := h1
    refine va_copyi (rest := []) hx hb (by rw [hml]; exact hL.1.symm) hown (hts _ hm) (hts _ hnat) (hts _ hst) (hts _ hini) hK hP (zD hAd M) hS a b 0 0 (zat_int (by decide) (zty_spec ha)) (zat_int (by decide) (zty_spec hb2)) rfl rfl rfl h2 h3 h4 h5 h6 (fun _ _ => rfl) (by omega) ?_ hd (fun H1 locs1 hP1 hD1 hS1 => ?_)
    · have h7 : nativeFrameWords "java/lang/System" "arraycopy" 5 + 11 ≤ 64 := by decide +kernel
      simp only [List.map_nil, List.sum_nil]
      omega
    · rw [zset_cpy (zty_spec hb2)] at hP1
      exact hk _ _ _ _ ho H1 locs1 ls hP1 hS1 hL hlen
  · cases ho

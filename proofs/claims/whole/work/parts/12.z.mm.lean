/-! Math.max and Math.min are the library's own: their calls as operations; the four methods that call them, anew -/
def zmin (x y : Int32) : Int32 := if y < x then y else x
def zmax (x y : Int32) : Int32 := if x < y then y else x
def zo_mm (f : Int32 → Int32 → Int32) (n : Nat) : ZP := fun E k lo st M => match st with | .int y :: .int x :: r => zck (decide ((r.map fun v => v.category).sum ≤ 8)) (k n lo (.int (f x y) :: r) M) | _ => none
theorem zk_mmin {mt : Nat → Option ZT} {cc : ByteArray} {own : String} {rk pc : Nat} {idx : Nat} (hm : Cond.methodLink own idx Lib.Math.min.name ∈ zTB) (hst : Cond.static Lib.Math.min.name ∈ zTB) (hini : Cond.initialized "java/lang/Math" ∈ zTB) (hcd : Cond.code Lib.Math.min.name Lib.Math.min.code 2 (some .int) ∈ zTB) (hd : decode cc pc = .ok (.invokestatic idx, 3)) : ZOK mt cc own rk pc (zo_mm zmin (pc + 3)) := by
  intro p l e R s m args below meth c nL D dA ad A cells slots Q d E hC hE k lo st M o ho hk hr H locs ls hP hS hL hlen
  obtain ⟨hx, hb, hml, hown, hts, hnl, hK, hAd, hSt, hR⟩ := hC
  unfold zo_mm at ho
  split at ho
  · rename_i y x r
    obtain ⟨h1, ho⟩ := zck_some ho
    have h2 := of_decide_eq_true h1
    have h3 : ((r.map (ztr ad)).map fun v => v.category).sum ≤ 8 := by rw [ztr_sum]; exact h2
    exact va_mmin hx hb (by rw [hml]; exact hL.1.symm) hown (hts _ hm) (hts _ hst) (hts _ hini) (hts _ hcd) (by omega) (by omega) hR.2.2.1 hR.2.2.2 hd (hk _ _ _ _ ho H locs ls hP hS hL hlen)
  · cases ho
theorem zk_mmax {mt : Nat → Option ZT} {cc : ByteArray} {own : String} {rk pc : Nat} {idx : Nat} (hm : Cond.methodLink own idx Lib.Math.max.name ∈ zTB) (hst : Cond.static Lib.Math.max.name ∈ zTB) (hini : Cond.initialized "java/lang/Math" ∈ zTB) (hcd : Cond.code Lib.Math.max.name Lib.Math.max.code 2 (some .int) ∈ zTB) (hd : decode cc pc = .ok (.invokestatic idx, 3)) : ZOK mt cc own rk pc (zo_mm zmax (pc + 3)) := by
  intro p l e R s m args below meth c nL D dA ad A cells slots Q d E hC hE k lo st M o ho hk hr H locs ls hP hS hL hlen
  obtain ⟨hx, hb, hml, hown, hts, hnl, hK, hAd, hSt, hR⟩ := hC
  unfold zo_mm at ho
  split at ho
  · rename_i y x r
    obtain ⟨h1, ho⟩ := zck_some ho
    have h2 := of_decide_eq_true h1
    have h3 : ((r.map (ztr ad)).map fun v => v.category).sum ≤ 8 := by rw [ztr_sum]; exact h2
    exact va_mmax hx hb (by rw [hml]; exact hL.1.symm) hown (hts _ hm) (hts _ hst) (hts _ hini) (hts _ hcd) (by omega) (by omega) hR.2.2.1 hR.2.2.2 hd (hk _ _ _ _ ho H locs ls hP hS hL hlen)
  · cases ho
theorem zmw_min_st : Cond.static Lib.Math.min.name ∈ zTB := zTB_mem 507 (by decide +kernel) rfl
theorem zmw_min_cd : Cond.code Lib.Math.min.name Lib.Math.min.code 2 (some .int) ∈ zTB := zTB_mem 508 (by decide +kernel) rfl
theorem zmw_max_st : Cond.static Lib.Math.max.name ∈ zTB := zTB_mem 751 (by decide +kernel) rfl
theorem zmw_max_cd : Cond.code Lib.Math.max.name Lib.Math.max.code 2 (some .int) ∈ zTB := zTB_mem 752 (by decide +kernel) rfl
theorem zmw_ini : Cond.initialized "java/lang/Math" ∈ zTB := zTB_mem 142 (by decide +kernel) rfl
theorem zmw_X0_keep_52 : Cond.methodLink RX0 26 Lib.Math.min.name ∈ zTB := zTB_mem 625 (by decide +kernel) rfl
def tb2_X0_keep : List (Nat × ZP) := [(0, zo_al 0 1), (1, zo_getr 0 0 4), (4, zo_al 0 5), (5, zo_get 0 3 8), (8, zo_il 1 9), (9, zo_iast 10), (10, zo_al 0 11), (11, zo_getr 0 1 14), (14, zo_al 0 15), (15, zo_get 0 3 18), (18, zo_il 2 19), (19, zo_iast 20), (20, zo_al 0 21), (21, zo_getr 0 2 24), (24, zo_al 0 25), (25, zo_get 0 3 28), (28, zo_il 3 29), (29, zo_iast 30), (30, zo_al 0 31), (31, zo_al 0 32), (32, zo_get 0 3 35), (35, zo_i 1 36), (36, zo_bin (· + ·) 37), (37, zo_i 24 39), (39, zo_dv zrem 40), (40, zo_put 0 3 43), (43, zo_al 0 44), (44, zo_al 0 45), (45, zo_get 0 4 48), (48, zo_i 1 49), (49, zo_bin (· + ·) 50), (50, zo_i 24 52), (52, zo_mm zmin 55), (55, zo_put 0 4 58), (58, zo_retv)]
set_option maxRecDepth 100000 in
set_option maxHeartbeats 4000000 in
theorem ok2_X0_keep : ∀ e ∈ tb2_X0_keep, ZOK zmt cX0_keep RX0 0 e.1 e.2 :=
  zcons (zk_aload_n (pc := 0) (j := 0) rfl (by decide +kernel)) (
  zcons (zk_getr (pc := 1) (ci := 0) (j := 0) rfl zinX0 (by decide) zw_138 (by decide +kernel)) (
  zcons (zk_aload_n (pc := 4) (j := 0) rfl (by decide +kernel)) (
  zcons (zk_get (pc := 5) (ci := 0) (j := 3) rfl zinX0 (by decide) zw_141 (by decide +kernel)) (
  zcons (zk_iload_n (pc := 8) (j := 1) rfl (by decide +kernel)) (
  zcons (zk_iastore (pc := 9) (by decide +kernel)) (
  zcons (zk_aload_n (pc := 10) (j := 0) rfl (by decide +kernel)) (
  zcons (zk_getr (pc := 11) (ci := 0) (j := 1) rfl zinX0 (by decide) zw_139 (by decide +kernel)) (
  zcons (zk_aload_n (pc := 14) (j := 0) rfl (by decide +kernel)) (
  zcons (zk_get (pc := 15) (ci := 0) (j := 3) rfl zinX0 (by decide) zw_141 (by decide +kernel)) (
  zcons (zk_iload_n (pc := 18) (j := 2) rfl (by decide +kernel)) (
  zcons (zk_iastore (pc := 19) (by decide +kernel)) (
  zcons (zk_aload_n (pc := 20) (j := 0) rfl (by decide +kernel)) (
  zcons (zk_getr (pc := 21) (ci := 0) (j := 2) rfl zinX0 (by decide) zw_140 (by decide +kernel)) (
  zcons (zk_aload_n (pc := 24) (j := 0) rfl (by decide +kernel)) (
  zcons (zk_get (pc := 25) (ci := 0) (j := 3) rfl zinX0 (by decide) zw_141 (by decide +kernel)) (
  zcons (zk_iload_n (pc := 28) (j := 3) rfl (by decide +kernel)) (
  zcons (zk_iastore (pc := 29) (by decide +kernel)) (
  zcons (zk_aload_n (pc := 30) (j := 0) rfl (by decide +kernel)) (
  zcons (zk_aload_n (pc := 31) (j := 0) rfl (by decide +kernel)) (
  zcons (zk_get (pc := 32) (ci := 0) (j := 3) rfl zinX0 (by decide) zw_141 (by decide +kernel)) (
  zcons (zk_iconst (pc := 35) (z := 1) (by decide) (by decide +kernel)) (
  zcons (zk_iadd (pc := 36) (by decide +kernel)) (
  zcons (zk_bipush (pc := 37) (z := 24) (by decide) (by decide +kernel)) (
  zcons (zk_irem (pc := 39) (by decide +kernel)) (
  zcons (zk_put (pc := 40) (ci := 0) (j := 3) rfl zinX0 (by decide) zw_141 tyX0 tyX0_ok nmX0 rfl (by decide +kernel) (by decide +kernel)) (
  zcons (zk_aload_n (pc := 43) (j := 0) rfl (by decide +kernel)) (
  zcons (zk_aload_n (pc := 44) (j := 0) rfl (by decide +kernel)) (
  zcons (zk_get (pc := 45) (ci := 0) (j := 4) rfl zinX0 (by decide) zw_142 (by decide +kernel)) (
  zcons (zk_iconst (pc := 48) (z := 1) (by decide) (by decide +kernel)) (
  zcons (zk_iadd (pc := 49) (by decide +kernel)) (
  zcons (zk_bipush (pc := 50) (z := 24) (by decide) (by decide +kernel)) (
  zcons (zk_mmin (pc := 52) zmw_X0_keep_52 zmw_min_st zmw_ini zmw_min_cd (by decide +kernel)) (
  zcons (zk_put (pc := 55) (ci := 0) (j := 4) rfl zinX0 (by decide) zw_142 tyX0 tyX0_ok nmX0 rfl (by decide +kernel) (by decide +kernel)) (
  zcons (zk_retv (pc := 58) rfl (by decide +kernel)) (znil)))))))))))))))))))))))))))))))))))
set_option maxRecDepth 100000 in
set_option maxHeartbeats 4000000 in
theorem e2_X0_keep_0 (E : ZE) (M : ZM) (x1 : Int32) (x2 : Int32) (x3 : Int32) : zrun E tb2_X0_keep cu_X0_keep 2000 [] 0 [some (.ref 49), some (.int x1), some (.int x2), some (.int x3)] [] M =
  zck (zin (M.1 49 3) 24)
  (zck (zin (M.1 49 3) 24)
    (zck (zin (M.1 49 3) 24)
      (some (.inl (none, zw (zw (zw (zw (zw M 50 (M.1 49 3).toNatClampNeg x1) 51 (M.1 49 3).toNatClampNeg x2) 52 (M.1 49 3).toNatClampNeg x3) 49 3 (zrem ((M.1 49 3) + 1) 24)) 49 4 (zmin ((M.1 49 4) + 1) 24)))))) := rfl
theorem zmw_X2_greatestSum_32 : Cond.methodLink RX2 84 Lib.Math.max.name ∈ zTB := zTB_mem 750 (by decide +kernel) rfl
def tb2_X2_greatestSum : List (Nat × ZP) := [(0, zo_i 0 1), (1, zo_is 2 2), (2, zo_i 0 3), (3, zo_is 3 4), (4, zo_il 3 5), (5, zo_al 0 6), (6, zo_get 2 3 9), (9, zo_icge 42 12), (12, zo_al 1 13), (13, zo_al 0 14), (14, zo_getr 2 1 17), (17, zo_il 3 18), (18, zo_iald 19), (19, zo_cvi 5 62 1 22), (22, zo_ifeq 36 25), (25, zo_il 2 26), (26, zo_al 0 27), (27, zo_getr 2 2 30), (30, zo_il 3 31), (31, zo_iald 32), (32, zo_mm zmax 35), (35, zo_is 2 36), (36, zo_inc 3 1 39), (39, zo_goto 4), (42, zo_il 2 43), (43, zo_reti)]
set_option maxRecDepth 100000 in
set_option maxHeartbeats 4000000 in
theorem ok2_X2_greatestSum : ∀ e ∈ tb2_X2_greatestSum, ZOK zmt cX2_greatestSum RX2 1 e.1 e.2 :=
  zcons (zk_iconst (pc := 0) (z := 0) (by decide) (by decide +kernel)) (
  zcons (zk_istore_n (pc := 1) (j := 2) rfl (by decide +kernel)) (
  zcons (zk_iconst (pc := 2) (z := 0) (by decide) (by decide +kernel)) (
  zcons (zk_istore_n (pc := 3) (j := 3) rfl (by decide +kernel)) (
  zcons (zk_iload_n (pc := 4) (j := 3) rfl (by decide +kernel)) (
  zcons (zk_aload_n (pc := 5) (j := 0) rfl (by decide +kernel)) (
  zcons (zk_get (pc := 6) (ci := 2) (j := 3) rfl zinX2 (by decide) zw_164 (by decide +kernel)) (
  zcons (zk_icge (pc := 9) (off := 33) (by decide) (by decide +kernel)) (
  zcons (zk_aload_n (pc := 12) (j := 1) rfl (by decide +kernel)) (
  zcons (zk_aload_n (pc := 13) (j := 0) rfl (by decide +kernel)) (
  zcons (zk_getr (pc := 14) (ci := 2) (j := 1) rfl zinX2 (by decide) zw_162 (by decide +kernel)) (
  zcons (zk_iload_n (pc := 17) (j := 3) rfl (by decide +kernel)) (
  zcons (zk_iaload (pc := 18) (by decide +kernel)) (
  zcons (zk_cviN (pc := 19) 62 rfl (ci := 5) rfl zw_465 zw_467 zsel_X5_holds zds_X5_holds (by decide) zw_468 zw_3 (by decide +kernel)) (
  zcons (zk_ifeq (pc := 22) (off := 14) (by decide) (by decide +kernel)) (
  zcons (zk_iload_n (pc := 25) (j := 2) rfl (by decide +kernel)) (
  zcons (zk_aload_n (pc := 26) (j := 0) rfl (by decide +kernel)) (
  zcons (zk_getr (pc := 27) (ci := 2) (j := 2) rfl zinX2 (by decide) zw_163 (by decide +kernel)) (
  zcons (zk_iload_n (pc := 30) (j := 3) rfl (by decide +kernel)) (
  zcons (zk_iaload (pc := 31) (by decide +kernel)) (
  zcons (zk_mmax (pc := 32) zmw_X2_greatestSum_32 zmw_max_st zmw_ini zmw_max_cd (by decide +kernel)) (
  zcons (zk_istore_n (pc := 35) (j := 2) rfl (by decide +kernel)) (
  zcons (zk_iinc (pc := 36) (z := 1) (by decide) (by decide +kernel)) (
  zcons (zk_goto (pc := 39) (off := (-35)) (by decide) (by decide +kernel)) (
  zcons (zk_iload_n (pc := 42) (j := 2) rfl (by decide +kernel)) (
  zcons (zk_reti (pc := 43) rfl (by decide +kernel)) (znil))))))))))))))))))))))))))
set_option maxRecDepth 100000 in
set_option maxHeartbeats 4000000 in
theorem e2_X2_greatestSum_0 (E : ZE) (M : ZM) (b1 : Nat) (hb1 : zsh b1) : zrun E tb2_X2_greatestSum cu_X2_greatestSum 2000 [] 0 [some (.ref 53), some (.ref b1), none, none] [] M =
  some (.inr (4, [some (.ref 53), some (.ref b1), some (.int 0), some (.int 0)], [], M)) := by
  rcases hb1 with rfl | rfl <;> rfl
set_option maxRecDepth 100000 in
set_option maxHeartbeats 4000000 in
theorem e2_X2_greatestSum_4 (E : ZE) (M : ZM) (b1 : Nat) (hb1 : zsh b1) (x2 : Int32) (x3 : Int32) : zrun E tb2_X2_greatestSum cu_X2_greatestSum 2000 [] 4 [some (.ref 53), some (.ref b1), some (.int x2), some (.int x3)] [] M =
  if (M.1 53 3) ≤ x3 then
  (some (.inl (some (.int x2), M)))
  else
  (zck (zin x3 275)
    ((E.1 62 [.ref b1, .int (M.1 55 x3.toNatClampNeg)] M).bind fun q1 =>
      if q1.1 = 0 then
        (some (.inr (4, [some (.ref 53), some (.ref b1), some (.int x2), some (.int (x3 + 1))], [], q1.2)))
        else
        (zck (zin x3 275)
          (some (.inr (4, [some (.ref 53), some (.ref b1), some (.int (zmax x2 (q1.2.1 56 x3.toNatClampNeg))), some (.int (x3 + 1))], [], q1.2)))))) := by
  rcases hb1 with rfl | rfl <;> rfl
theorem zmw_X3_readLaw_43 : Cond.methodLink RX3 55 Lib.Math.min.name ∈ zTB := zTB_mem 506 (by decide +kernel) rfl
def tb2_X3_readLaw : List (Nat × ZP) := [(0, zo_al 0 1), (1, zo_i 119 3), (3, zo_cvi 3 44 1 6), (6, zo_ifne 11 9), (9, zo_i 0 10), (10, zo_retz), (11, zo_al 0 12), (12, zo_i 1 13), (13, zo_i 6 15), (15, zo_cvi 3 45 2 18), (18, zo_is 2 19), (19, zo_il 2 20), (20, zo_i 1 21), (21, zo_iclt 33 24), (24, zo_al 0 25), (25, zo_i 44 27), (27, zo_cvi 3 44 1 30), (30, zo_ifne 35 33), (33, zo_i 0 34), (34, zo_retz), (35, zo_al 0 36), (36, zo_i 1 37), (37, zo_i 6 39), (39, zo_i 10 41), (41, zo_il 2 42), (42, zo_dv (· / ·) 43), (43, zo_mm zmin 46), (46, zo_cvi 3 45 2 49), (49, zo_is 3 50), (50, zo_il 3 51), (51, zo_i 1 52), (52, zo_iclt 64 55), (55, zo_al 0 56), (56, zo_i 44 58), (58, zo_cvi 3 44 1 61), (61, zo_ifne 66 64), (64, zo_i 0 65), (65, zo_retz), (66, zo_al 0 67), (67, zo_i 0 68), (68, zo_i 9 70), (70, zo_cvi 3 45 2 73), (73, zo_is 4 75), (75, zo_il 4 77), (77, zo_iflt 89 80), (80, zo_al 0 81), (81, zo_i 59 83), (83, zo_cvi 3 44 1 86), (86, zo_ifne 91 89), (89, zo_i 0 90), (90, zo_retz), (91, zo_al 1 92), (92, zo_il 2 93), (93, zo_il 3 94), (94, zo_il 4 96), (96, zo_cvv 5 53 3 99), (99, zo_i 1 100), (100, zo_retz)]
set_option maxRecDepth 100000 in
set_option maxHeartbeats 4000000 in
theorem ok2_X3_readLaw : ∀ e ∈ tb2_X3_readLaw, ZOK zmt cX3_readLaw RX3 3 e.1 e.2 :=
  zcons (zk_aload_n (pc := 0) (j := 0) rfl (by decide +kernel)) (
  zcons (zk_bipush (pc := 1) (z := 119) (by decide) (by decide +kernel)) (
  zcons (zk_cvi (pc := 3) 44 rfl (ci := 3) rfl zw_364 zw_366 zsel_X3_takes zds_X3_takes (by decide) zw_367 zw_2 (by decide +kernel)) (
  zcons (zk_ifne (pc := 6) (off := 5) (by decide) (by decide +kernel)) (
  zcons (zk_iconst (pc := 9) (z := 0) (by decide) (by decide +kernel)) (
  zcons (zk_retz (pc := 10) rfl (by decide +kernel)) (
  zcons (zk_aload_n (pc := 11) (j := 0) rfl (by decide +kernel)) (
  zcons (zk_iconst (pc := 12) (z := 1) (by decide) (by decide +kernel)) (
  zcons (zk_bipush (pc := 13) (z := 6) (by decide) (by decide +kernel)) (
  zcons (zk_cvi (pc := 15) 45 rfl (ci := 3) rfl zw_372 zw_374 zsel_X3_takeNumber zds_X3_takeNumber (by decide) zw_375 zw_2 (by decide +kernel)) (
  zcons (zk_istore_n (pc := 18) (j := 2) rfl (by decide +kernel)) (
  zcons (zk_iload_n (pc := 19) (j := 2) rfl (by decide +kernel)) (
  zcons (zk_iconst (pc := 20) (z := 1) (by decide) (by decide +kernel)) (
  zcons (zk_iclt (pc := 21) (off := 12) (by decide) (by decide +kernel)) (
  zcons (zk_aload_n (pc := 24) (j := 0) rfl (by decide +kernel)) (
  zcons (zk_bipush (pc := 25) (z := 44) (by decide) (by decide +kernel)) (
  zcons (zk_cvi (pc := 27) 44 rfl (ci := 3) rfl zw_364 zw_366 zsel_X3_takes zds_X3_takes (by decide) zw_367 zw_2 (by decide +kernel)) (
  zcons (zk_ifne (pc := 30) (off := 5) (by decide) (by decide +kernel)) (
  zcons (zk_iconst (pc := 33) (z := 0) (by decide) (by decide +kernel)) (
  zcons (zk_retz (pc := 34) rfl (by decide +kernel)) (
  zcons (zk_aload_n (pc := 35) (j := 0) rfl (by decide +kernel)) (
  zcons (zk_iconst (pc := 36) (z := 1) (by decide) (by decide +kernel)) (
  zcons (zk_bipush (pc := 37) (z := 6) (by decide) (by decide +kernel)) (
  zcons (zk_bipush (pc := 39) (z := 10) (by decide) (by decide +kernel)) (
  zcons (zk_iload_n (pc := 41) (j := 2) rfl (by decide +kernel)) (
  zcons (zk_idiv (pc := 42) (by decide +kernel)) (
  zcons (zk_mmin (pc := 43) zmw_X3_readLaw_43 zmw_min_st zmw_ini zmw_min_cd (by decide +kernel)) (
  zcons (zk_cvi (pc := 46) 45 rfl (ci := 3) rfl zw_372 zw_374 zsel_X3_takeNumber zds_X3_takeNumber (by decide) zw_375 zw_2 (by decide +kernel)) (
  zcons (zk_istore_n (pc := 49) (j := 3) rfl (by decide +kernel)) (
  zcons (zk_iload_n (pc := 50) (j := 3) rfl (by decide +kernel)) (
  zcons (zk_iconst (pc := 51) (z := 1) (by decide) (by decide +kernel)) (
  zcons (zk_iclt (pc := 52) (off := 12) (by decide) (by decide +kernel)) (
  zcons (zk_aload_n (pc := 55) (j := 0) rfl (by decide +kernel)) (
  zcons (zk_bipush (pc := 56) (z := 44) (by decide) (by decide +kernel)) (
  zcons (zk_cvi (pc := 58) 44 rfl (ci := 3) rfl zw_364 zw_366 zsel_X3_takes zds_X3_takes (by decide) zw_367 zw_2 (by decide +kernel)) (
  zcons (zk_ifne (pc := 61) (off := 5) (by decide) (by decide +kernel)) (
  zcons (zk_iconst (pc := 64) (z := 0) (by decide) (by decide +kernel)) (
  zcons (zk_retz (pc := 65) rfl (by decide +kernel)) (
  zcons (zk_aload_n (pc := 66) (j := 0) rfl (by decide +kernel)) (
  zcons (zk_iconst (pc := 67) (z := 0) (by decide) (by decide +kernel)) (
  zcons (zk_bipush (pc := 68) (z := 9) (by decide) (by decide +kernel)) (
  zcons (zk_cvi (pc := 70) 45 rfl (ci := 3) rfl zw_372 zw_374 zsel_X3_takeNumber zds_X3_takeNumber (by decide) zw_375 zw_2 (by decide +kernel)) (
  zcons (zk_istore (pc := 73) (by decide +kernel)) (
  zcons (zk_iload (pc := 75) (by decide +kernel)) (
  zcons (zk_iflt (pc := 77) (off := 12) (by decide) (by decide +kernel)) (
  zcons (zk_aload_n (pc := 80) (j := 0) rfl (by decide +kernel)) (
  zcons (zk_bipush (pc := 81) (z := 59) (by decide) (by decide +kernel)) (
  zcons (zk_cvi (pc := 83) 44 rfl (ci := 3) rfl zw_364 zw_366 zsel_X3_takes zds_X3_takes (by decide) zw_367 zw_2 (by decide +kernel)) (
  zcons (zk_ifne (pc := 86) (off := 5) (by decide) (by decide +kernel)) (
  zcons (zk_iconst (pc := 89) (z := 0) (by decide) (by decide +kernel)) (
  zcons (zk_retz (pc := 90) rfl (by decide +kernel)) (
  zcons (zk_aload_n (pc := 91) (j := 1) rfl (by decide +kernel)) (
  zcons (zk_iload_n (pc := 92) (j := 2) rfl (by decide +kernel)) (
  zcons (zk_iload_n (pc := 93) (j := 3) rfl (by decide +kernel)) (
  zcons (zk_iload (pc := 94) (by decide +kernel)) (
  zcons (zk_cvvN (pc := 96) 53 rfl (ci := 5) rfl zw_379 zw_381 zsel_X5_begin zds_X5_begin (by decide) zw_382 zw_3 (by decide +kernel)) (
  zcons (zk_iconst (pc := 99) (z := 1) (by decide) (by decide +kernel)) (
  zcons (zk_retz (pc := 100) rfl (by decide +kernel)) (znil))))))))))))))))))))))))))))))))))))))))))))))))))))))))))
set_option maxRecDepth 100000 in
set_option maxHeartbeats 4000000 in
theorem e2_X3_readLaw_0 (E : ZE) (M : ZM) (b1 : Nat) (hb1 : zsh b1) : zrun E tb2_X3_readLaw cu_X3_readLaw 2000 [] 0 [some (.ref 18), some (.ref b1), none, none, none] [] M =
  (E.1 44 [.ref 18, .int 119] M).bind fun q1 =>
  if q1.1 = 0 then
    (some (.inl (some (.int 0), q1.2)))
    else
    ((E.1 45 [.ref 18, .int 1, .int 6] q1.2).bind fun q2 =>
      if q2.1 < 1 then
        (some (.inl (some (.int 0), q2.2)))
        else
        ((E.1 44 [.ref 18, .int 44] q2.2).bind fun q3 =>
          if q3.1 = 0 then
            (some (.inl (some (.int 0), q3.2)))
            else
            (zck (!(decide (q2.1 = 0)))
              ((E.1 45 [.ref 18, .int 1, .int (zmin 6 (10 / q2.1))] q3.2).bind fun q4 =>
                if q4.1 < 1 then
                  (some (.inl (some (.int 0), q4.2)))
                  else
                  ((E.1 44 [.ref 18, .int 44] q4.2).bind fun q5 =>
                    if q5.1 = 0 then
                      (some (.inl (some (.int 0), q5.2)))
                      else
                      ((E.1 45 [.ref 18, .int 0, .int 9] q5.2).bind fun q6 =>
                        if q6.1 < 0 then
                          (some (.inl (some (.int 0), q6.2)))
                          else
                          ((E.1 44 [.ref 18, .int 59] q6.2).bind fun q7 =>
                            if q7.1 = 0 then
                              (some (.inl (some (.int 0), q7.2)))
                              else
                              ((E.2.2 53 [.ref b1, .int q2.1, .int q4.1, .int q6.1] q7.2).bind fun q8 =>
                                some (.inl (some (.int 1), q8)))))))))) := by
  rcases hb1 with rfl | rfl <;> rfl
theorem zmw_X5_begin_11 : Cond.methodLink RX5 55 Lib.Math.min.name ∈ zTB := zTB_mem 513 (by decide +kernel) rfl
def tb2_X5_begin : List (Nat × ZP) := [(0, zo_al 0 1), (1, zo_il 1 2), (2, zo_put 5 0 5), (5, zo_al 0 6), (6, zo_il 1 7), (7, zo_il 2 8), (8, zo_bin (· * ·) 9), (9, zo_i 10 11), (11, zo_mm zmin 14), (14, zo_put 5 1 17), (17, zo_al 0 18), (18, zo_i 0 19), (19, zo_put 5 2 22), (22, zo_al 0 23), (23, zo_il 3 24), (24, zo_put 5 3 27), (27, zo_al 0 28), (28, zo_i 0 29), (29, zo_put 5 4 32), (32, zo_al 0 33), (33, zo_i 1 34), (34, zo_al 0 35), (35, zo_get 5 1 38), (38, zo_bin zshl 39), (39, zo_i 1 40), (40, zo_bin (· - ·) 41), (41, zo_put 5 5 44), (44, zo_al 0 45), (45, zo_i 0 46), (46, zo_put 5 6 49), (49, zo_al 0 50), (50, zo_i 0 51), (51, zo_put 5 7 54), (54, zo_i 0 55), (55, zo_is 4 57), (57, zo_il 4 59), (59, zo_al 0 60), (60, zo_get 5 1 63), (63, zo_icge 85 66), (66, zo_al 0 67), (67, zo_getr 5 8 70), (70, zo_il 4 72), (72, zo_al 0 73), (73, zo_il 4 75), (75, zo_cvi 5 54 1 78), (78, zo_iast 79), (79, zo_inc 4 1 82), (82, zo_goto 57), (85, zo_retv)]
set_option maxRecDepth 100000 in
set_option maxHeartbeats 4000000 in
theorem ok2_X5_begin : ∀ e ∈ tb2_X5_begin, ZOK zmt cX5_begin RX5 0 e.1 e.2 :=
  zcons (zk_aload_n (pc := 0) (j := 0) rfl (by decide +kernel)) (
  zcons (zk_iload_n (pc := 1) (j := 1) rfl (by decide +kernel)) (
  zcons (zk_put (pc := 2) (ci := 5) (j := 0) rfl zinX5 (by decide) zw_62 tyX5 tyX5_ok nmX5 rfl (by decide +kernel) (by decide +kernel)) (
  zcons (zk_aload_n (pc := 5) (j := 0) rfl (by decide +kernel)) (
  zcons (zk_iload_n (pc := 6) (j := 1) rfl (by decide +kernel)) (
  zcons (zk_iload_n (pc := 7) (j := 2) rfl (by decide +kernel)) (
  zcons (zk_imul (pc := 8) (by decide +kernel)) (
  zcons (zk_bipush (pc := 9) (z := 10) (by decide) (by decide +kernel)) (
  zcons (zk_mmin (pc := 11) zmw_X5_begin_11 zmw_min_st zmw_ini zmw_min_cd (by decide +kernel)) (
  zcons (zk_put (pc := 14) (ci := 5) (j := 1) rfl zinX5 (by decide) zw_64 tyX5 tyX5_ok nmX5 rfl (by decide +kernel) (by decide +kernel)) (
  zcons (zk_aload_n (pc := 17) (j := 0) rfl (by decide +kernel)) (
  zcons (zk_iconst (pc := 18) (z := 0) (by decide) (by decide +kernel)) (
  zcons (zk_put (pc := 19) (ci := 5) (j := 2) rfl zinX5 (by decide) zw_68 tyX5 tyX5_ok nmX5 rfl (by decide +kernel) (by decide +kernel)) (
  zcons (zk_aload_n (pc := 22) (j := 0) rfl (by decide +kernel)) (
  zcons (zk_iload_n (pc := 23) (j := 3) rfl (by decide +kernel)) (
  zcons (zk_put (pc := 24) (ci := 5) (j := 3) rfl zinX5 (by decide) zw_71 tyX5 tyX5_ok nmX5 rfl (by decide +kernel) (by decide +kernel)) (
  zcons (zk_aload_n (pc := 27) (j := 0) rfl (by decide +kernel)) (
  zcons (zk_iconst (pc := 28) (z := 0) (by decide) (by decide +kernel)) (
  zcons (zk_put (pc := 29) (ci := 5) (j := 4) rfl zinX5 (by decide) zw_75 tyX5 tyX5_ok nmX5 rfl (by decide +kernel) (by decide +kernel)) (
  zcons (zk_aload_n (pc := 32) (j := 0) rfl (by decide +kernel)) (
  zcons (zk_iconst (pc := 33) (z := 1) (by decide) (by decide +kernel)) (
  zcons (zk_aload_n (pc := 34) (j := 0) rfl (by decide +kernel)) (
  zcons (zk_get (pc := 35) (ci := 5) (j := 1) rfl zinX5 (by decide) zw_64 (by decide +kernel)) (
  zcons (zk_ishl (pc := 38) (by decide +kernel)) (
  zcons (zk_iconst (pc := 39) (z := 1) (by decide) (by decide +kernel)) (
  zcons (zk_isub (pc := 40) (by decide +kernel)) (
  zcons (zk_put (pc := 41) (ci := 5) (j := 5) rfl zinX5 (by decide) zw_78 tyX5 tyX5_ok nmX5 rfl (by decide +kernel) (by decide +kernel)) (
  zcons (zk_aload_n (pc := 44) (j := 0) rfl (by decide +kernel)) (
  zcons (zk_iconst (pc := 45) (z := 0) (by decide) (by decide +kernel)) (
  zcons (zk_put (pc := 46) (ci := 5) (j := 6) rfl zinX5 (by decide) zw_82 tyX5 tyX5_ok nmX5 rfl (by decide +kernel) (by decide +kernel)) (
  zcons (zk_aload_n (pc := 49) (j := 0) rfl (by decide +kernel)) (
  zcons (zk_iconst (pc := 50) (z := 0) (by decide) (by decide +kernel)) (
  zcons (zk_put (pc := 51) (ci := 5) (j := 7) rfl zinX5 (by decide) zw_85 tyX5 tyX5_ok nmX5 rfl (by decide +kernel) (by decide +kernel)) (
  zcons (zk_iconst (pc := 54) (z := 0) (by decide) (by decide +kernel)) (
  zcons (zk_istore (pc := 55) (by decide +kernel)) (
  zcons (zk_iload (pc := 57) (by decide +kernel)) (
  zcons (zk_aload_n (pc := 59) (j := 0) rfl (by decide +kernel)) (
  zcons (zk_get (pc := 60) (ci := 5) (j := 1) rfl zinX5 (by decide) zw_64 (by decide +kernel)) (
  zcons (zk_icge (pc := 63) (off := 22) (by decide) (by decide +kernel)) (
  zcons (zk_aload_n (pc := 66) (j := 0) rfl (by decide +kernel)) (
  zcons (zk_getr (pc := 67) (ci := 5) (j := 8) rfl zinX5 (by decide) zw_86 (by decide +kernel)) (
  zcons (zk_iload (pc := 70) (by decide +kernel)) (
  zcons (zk_aload_n (pc := 72) (j := 0) rfl (by decide +kernel)) (
  zcons (zk_iload (pc := 73) (by decide +kernel)) (
  zcons (zk_cvi (pc := 75) 54 rfl (ci := 5) rfl zw_384 zw_386 zsel_X5_findNext zds_X5_findNext (by decide) zw_387 zw_3 (by decide +kernel)) (
  zcons (zk_iastore (pc := 78) (by decide +kernel)) (
  zcons (zk_iinc (pc := 79) (z := 1) (by decide) (by decide +kernel)) (
  zcons (zk_goto (pc := 82) (off := (-25)) (by decide) (by decide +kernel)) (
  zcons (zk_retv (pc := 85) rfl (by decide +kernel)) (znil)))))))))))))))))))))))))))))))))))))))))))))))))
set_option maxRecDepth 100000 in
set_option maxHeartbeats 4000000 in
theorem e2_X5_begin_0 (E : ZE) (M : ZM) (b : Nat) (hb : zsh b) (x1 : Int32) (x2 : Int32) (x3 : Int32) : zrun E tb2_X5_begin cu_X5_begin 2000 [] 0 [some (.ref b), some (.int x1), some (.int x2), some (.int x3), none] [] M =
  some (.inr (57, [some (.ref b), none, none, none, some (.int 0)], [], zw (zw (zw (zw (zw (zw (zw (zw M b 0 x1) b 1 (zmin (x1 * x2) 10)) b 2 0) b 3 x3) b 4 0) b 5 ((zshl 1 (zmin (x1 * x2) 10)) - 1)) b 6 0) b 7 0)) := by
  rcases hb with rfl | rfl <;> rfl
set_option maxRecDepth 100000 in
set_option maxHeartbeats 4000000 in
theorem e2_X5_begin_57 (E : ZE) (M : ZM) (b : Nat) (hb : zsh b) (x4 : Int32) : zrun E tb2_X5_begin cu_X5_begin 2000 [] 57 [some (.ref b), none, none, none, some (.int x4)] [] M =
  if (M.1 b 1) ≤ x4 then
  (some (.inl (none, M)))
  else
  ((E.1 54 [.ref b, .int x4] M).bind fun q1 =>
    zck (zin x4 10)
      (some (.inr (57, [some (.ref b), none, none, none, some (.int (x4 + 1))], [], zw q1.2 (b + 1) x4.toNatClampNeg q1.1)))) := by
  rcases hb with rfl | rfl <;> rfl

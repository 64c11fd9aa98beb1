def tb_X7_fits : List (Nat × ZP) := [(0, zo_al 0 1), (1, zo_cvi 7 122 0 4), (4, zo_ifne 10 7), (7, zo_i (-1000002) 9), (9, zo_reti), (10, zo_il 1 11), (11, zo_iflt 30 14), (14, zo_il 1 15), (15, zo_i 2 16), (16, zo_icgt 30 19), (19, zo_il 2 20), (20, zo_il 4 22), (22, zo_il 6 24), (24, zo_csi 129 3 27), (27, zo_ifne 33 30), (30, zo_i (-1000001) 32), (32, zo_reti), (33, zo_al 0 34), (34, zo_il 2 35), (35, zo_il 3 36), (36, zo_il 4 38), (38, zo_il 5 40), (40, zo_il 6 42), (42, zo_cvi 7 136 5 45), (45, zo_is 7 47), (47, zo_il 7 49), (49, zo_ifeq 59 52), (52, zo_al 0 53), (53, zo_il 7 55), (55, zo_cvi 7 120 1 58), (58, zo_reti), (59, zo_il 1 60), (60, zo_ifne 72 63), (63, zo_al 0 64), (64, zo_al 0 65), (65, zo_cvi 7 139 0 68), (68, zo_cvi 7 121 1 71), (71, zo_reti), (72, zo_al 0 73), (73, zo_il 1 74), (74, zo_i 1 75), (75, zo_icne 85 78), (78, zo_al 0 79), (79, zo_cvi 7 140 0 82), (82, zo_goto 89), (85, zo_al 0 86), (86, zo_cvi 7 141 0 89), (89, zo_cvi 7 121 1 92), (92, zo_reti)]
def cu_X7_fits : List (Nat × List Bool) := []
set_option maxRecDepth 100000 in
set_option maxHeartbeats 4000000 in
theorem ok_X7_fits : ∀ e ∈ tb_X7_fits, ZOK zmt cX7_fits RX7 1 e.1 e.2 :=
  zcons (zk_aload_n (pc := 0) (j := 0) rfl (by decide +kernel)) (
  zcons (zk_cvi (pc := 1) 122 rfl (ci := 7) rfl zw_529 zw_531 zsel_X7_isThere zds_X7_isThere (by decide) zw_532 zw_1 (by decide +kernel)) (
  zcons (zk_ifne (pc := 4) (off := 6) (by decide) (by decide +kernel)) (
  zcons (zk_ldc (pc := 7) zw_440 (by decide +kernel)) (
  zcons (zk_reti (pc := 9) rfl (by decide +kernel)) (
  zcons (zk_iload_n (pc := 10) (j := 1) rfl (by decide +kernel)) (
  zcons (zk_iflt (pc := 11) (off := 19) (by decide) (by decide +kernel)) (
  zcons (zk_iload_n (pc := 14) (j := 1) rfl (by decide +kernel)) (
  zcons (zk_iconst (pc := 15) (z := 2) (by decide) (by decide +kernel)) (
  zcons (zk_icgt (pc := 16) (off := 14) (by decide) (by decide +kernel)) (
  zcons (zk_iload_n (pc := 19) (j := 2) rfl (by decide +kernel)) (
  zcons (zk_iload (pc := 20) (by decide +kernel)) (
  zcons (zk_iload (pc := 22) (by decide +kernel)) (
  zcons (zk_csi (pc := 24) 129 rfl zw_758 zw_759 zds_X7_areRowsOf (by decide) zw_760 zw_1 (by decide +kernel)) (
  zcons (zk_ifne (pc := 27) (off := 6) (by decide) (by decide +kernel)) (
  zcons (zk_ldc (pc := 30) zw_292 (by decide +kernel)) (
  zcons (zk_reti (pc := 32) rfl (by decide +kernel)) (
  zcons (zk_aload_n (pc := 33) (j := 0) rfl (by decide +kernel)) (
  zcons (zk_iload_n (pc := 34) (j := 2) rfl (by decide +kernel)) (
  zcons (zk_iload_n (pc := 35) (j := 3) rfl (by decide +kernel)) (
  zcons (zk_iload (pc := 36) (by decide +kernel)) (
  zcons (zk_iload (pc := 38) (by decide +kernel)) (
  zcons (zk_iload (pc := 40) (by decide +kernel)) (
  zcons (zk_cvi (pc := 42) 136 rfl (ci := 7) rfl zw_761 zw_763 zsel_X7_takeTold zds_X7_takeTold (by decide) zw_764 zw_1 (by decide +kernel)) (
  zcons (zk_istore (pc := 45) (by decide +kernel)) (
  zcons (zk_iload (pc := 47) (by decide +kernel)) (
  zcons (zk_ifeq (pc := 49) (off := 10) (by decide) (by decide +kernel)) (
  zcons (zk_aload_n (pc := 52) (j := 0) rfl (by decide +kernel)) (
  zcons (zk_iload (pc := 53) (by decide +kernel)) (
  zcons (zk_cvi (pc := 55) 120 rfl (ci := 7) rfl zw_293 zw_295 zsel_X7_found zds_X7_found (by decide) zw_296 zw_1 (by decide +kernel)) (
  zcons (zk_reti (pc := 58) rfl (by decide +kernel)) (
  zcons (zk_iload_n (pc := 59) (j := 1) rfl (by decide +kernel)) (
  zcons (zk_ifne (pc := 60) (off := 12) (by decide) (by decide +kernel)) (
  zcons (zk_aload_n (pc := 63) (j := 0) rfl (by decide +kernel)) (
  zcons (zk_aload_n (pc := 64) (j := 0) rfl (by decide +kernel)) (
  zcons (zk_cvi (pc := 65) 139 rfl (ci := 7) rfl zw_791 zw_793 zsel_X7_oversThatFit zds_X7_oversThatFit (by decide) zw_794 zw_1 (by decide +kernel)) (
  zcons (zk_cvi (pc := 68) 121 rfl (ci := 7) rfl zw_305 zw_307 zsel_X7_fine zds_X7_fine (by decide) zw_308 zw_1 (by decide +kernel)) (
  zcons (zk_reti (pc := 71) rfl (by decide +kernel)) (
  zcons (zk_aload_n (pc := 72) (j := 0) rfl (by decide +kernel)) (
  zcons (zk_iload_n (pc := 73) (j := 1) rfl (by decide +kernel)) (
  zcons (zk_iconst (pc := 74) (z := 1) (by decide) (by decide +kernel)) (
  zcons (zk_icne (pc := 75) (off := 10) (by decide) (by decide +kernel)) (
  zcons (zk_aload_n (pc := 78) (j := 0) rfl (by decide +kernel)) (
  zcons (zk_cvi (pc := 79) 140 rfl (ci := 7) rfl zw_795 zw_797 zsel_X7_countSwaps zds_X7_countSwaps (by decide) zw_798 zw_1 (by decide +kernel)) (
  zcons (zk_goto (pc := 82) (off := 7) (by decide) (by decide +kernel)) (
  zcons (zk_aload_n (pc := 85) (j := 0) rfl (by decide +kernel)) (
  zcons (zk_cvi (pc := 86) 141 rfl (ci := 7) rfl zw_803 zw_805 zsel_X7_firstSwap zds_X7_firstSwap (by decide) zw_806 zw_1 (by decide +kernel)) (
  zcons (zk_cvi (pc := 89) 121 rfl (ci := 7) rfl zw_305 zw_307 zsel_X7_fine zds_X7_fine (by decide) zw_308 zw_1 (by decide +kernel)) (
  zcons (zk_reti (pc := 92) rfl (by decide +kernel)) (znil)))))))))))))))))))))))))))))))))))))))))))))))))
def tb_X7_wrong : List (Nat × ZP) := [(0, zo_al 0 1), (1, zo_getr 7 6 4), (4, zo_al 0 5), (5, zo_getr 7 2 8), (8, zo_il 1 9), (9, zo_cvi 2 12 2 12), (12, zo_ifeq 43 15), (15, zo_il 2 16), (16, zo_iflt 43 19), (19, zo_il 2 20), (20, zo_i 10 22), (22, zo_icgt 43 25), (25, zo_il 3 26), (26, zo_iflt 43 29), (29, zo_il 3 30), (30, zo_i 10 32), (32, zo_icgt 43 35), (35, zo_il 4 37), (37, zo_csi 128 1 40), (40, zo_ifne 47 43), (43, zo_l (-1000001) 46), (46, zo_retj), (47, zo_l 10 50), (50, zo_al 0 51), (51, zo_getr 7 2 54), (54, zo_il 1 55), (55, zo_cvi 5 70 1 58), (58, zo_csl 134 2 61), (61, zo_ls 5 63), (63, zo_al 0 64), (64, zo_getr 7 6 67), (67, zo_al 0 68), (68, zo_getr 7 2 71), (71, zo_il 1 72), (72, zo_il 2 73), (73, zo_il 3 74), (74, zo_cvl 2 36 4 77), (77, zo_ls 7 79), (79, zo_ll 5 81), (81, zo_ll 7 83), (83, zo_csl 135 2 86), (86, zo_ls 9 88), (88, zo_ll 9 90), (90, zo_l 0 91), (91, zo_lcmp 92), (92, zo_ifne 97 95), (95, zo_l 0 96), (96, zo_retj), (97, zo_il 4 99), (99, zo_ifne 107 102), (102, zo_ll 7 104), (104, zo_goto 109), (107, zo_ll 5 109), (109, zo_ll 9 111), (111, zo_ldv (· / ·) 112), (112, zo_retj)]
def cu_X7_wrong : List (Nat × List Bool) := []
set_option maxRecDepth 100000 in
set_option maxHeartbeats 4000000 in
theorem ok_X7_wrong : ∀ e ∈ tb_X7_wrong, ZOK zmt cX7_wrong RX7 2 e.1 e.2 :=
  zcons (zk_aload_n (pc := 0) (j := 0) rfl (by decide +kernel)) (
  zcons (zk_getr (pc := 1) (ci := 7) (j := 6) rfl zinX7 (by decide) zw_260 (by decide +kernel)) (
  zcons (zk_aload_n (pc := 4) (j := 0) rfl (by decide +kernel)) (
  zcons (zk_getr (pc := 5) (ci := 7) (j := 2) rfl zinX7 (by decide) zw_256 (by decide +kernel)) (
  zcons (zk_iload_n (pc := 8) (j := 1) rfl (by decide +kernel)) (
  zcons (zk_cviN (pc := 9) 12 rfl (ci := 2) rfl zw_461 zw_463 zsel_X2_isPiece zds_X2_isPiece (by decide) zw_464 zw_5 (by decide +kernel)) (
  zcons (zk_ifeq (pc := 12) (off := 31) (by decide) (by decide +kernel)) (
  zcons (zk_iload_n (pc := 15) (j := 2) rfl (by decide +kernel)) (
  zcons (zk_iflt (pc := 16) (off := 27) (by decide) (by decide +kernel)) (
  zcons (zk_iload_n (pc := 19) (j := 2) rfl (by decide +kernel)) (
  zcons (zk_bipush (pc := 20) (z := 10) (by decide) (by decide +kernel)) (
  zcons (zk_icgt (pc := 22) (off := 21) (by decide) (by decide +kernel)) (
  zcons (zk_iload_n (pc := 25) (j := 3) rfl (by decide +kernel)) (
  zcons (zk_iflt (pc := 26) (off := 17) (by decide) (by decide +kernel)) (
  zcons (zk_iload_n (pc := 29) (j := 3) rfl (by decide +kernel)) (
  zcons (zk_bipush (pc := 30) (z := 10) (by decide) (by decide +kernel)) (
  zcons (zk_icgt (pc := 32) (off := 11) (by decide) (by decide +kernel)) (
  zcons (zk_iload (pc := 35) (by decide +kernel)) (
  zcons (zk_csi (pc := 37) 128 rfl zw_641 zw_642 zds_X7_isEither (by decide) zw_643 zw_1 (by decide +kernel)) (
  zcons (zk_ifne (pc := 40) (off := 7) (by decide) (by decide +kernel)) (
  zcons (zk_ldc2 (pc := 43) zw_811 (by decide +kernel)) (
  zcons (zk_retj (pc := 46) rfl (by decide +kernel)) (
  zcons (zk_ldc2 (pc := 47) zw_812 (by decide +kernel)) (
  zcons (zk_aload_n (pc := 50) (j := 0) rfl (by decide +kernel)) (
  zcons (zk_getr (pc := 51) (ci := 7) (j := 2) rfl zinX7 (by decide) zw_256 (by decide +kernel)) (
  zcons (zk_iload_n (pc := 54) (j := 1) rfl (by decide +kernel)) (
  zcons (zk_cviN (pc := 55) 70 rfl (ci := 5) rfl zw_486 zw_488 zsel_X5_tearsOf zds_X5_tearsOf (by decide) zw_489 zw_3 (by decide +kernel)) (
  zcons (zk_csl (pc := 58) 134 rfl zw_813 zw_814 zds_X7_powerOf (by decide) zw_815 zw_1 (by decide +kernel)) (
  zcons (zk_lstore (pc := 61) (by decide +kernel)) (
  zcons (zk_aload_n (pc := 63) (j := 0) rfl (by decide +kernel)) (
  zcons (zk_getr (pc := 64) (ci := 7) (j := 6) rfl zinX7 (by decide) zw_260 (by decide +kernel)) (
  zcons (zk_aload_n (pc := 67) (j := 0) rfl (by decide +kernel)) (
  zcons (zk_getr (pc := 68) (ci := 7) (j := 2) rfl zinX7 (by decide) zw_256 (by decide +kernel)) (
  zcons (zk_iload_n (pc := 71) (j := 1) rfl (by decide +kernel)) (
  zcons (zk_iload_n (pc := 72) (j := 2) rfl (by decide +kernel)) (
  zcons (zk_iload_n (pc := 73) (j := 3) rfl (by decide +kernel)) (
  zcons (zk_cvlN (pc := 74) 36 rfl (ci := 2) rfl zw_816 zw_818 zsel_X2_casesOfFewLost zds_X2_casesOfFewLost (by decide) zw_819 zw_5 (by decide +kernel)) (
  zcons (zk_lstore (pc := 77) (by decide +kernel)) (
  zcons (zk_lload (pc := 79) (by decide +kernel)) (
  zcons (zk_lload (pc := 81) (by decide +kernel)) (
  zcons (zk_csl (pc := 83) 135 rfl zw_829 zw_830 zds_X7_commonDivisor (by decide) zw_831 zw_1 (by decide +kernel)) (
  zcons (zk_lstore (pc := 86) (by decide +kernel)) (
  zcons (zk_lload (pc := 88) (by decide +kernel)) (
  zcons (zk_lconst (pc := 90) (z := 0) (by decide) (by decide +kernel)) (
  zcons (zk_lcmp (pc := 91) (by decide +kernel)) (
  zcons (zk_ifne (pc := 92) (off := 5) (by decide) (by decide +kernel)) (
  zcons (zk_lconst (pc := 95) (z := 0) (by decide) (by decide +kernel)) (
  zcons (zk_retj (pc := 96) rfl (by decide +kernel)) (
  zcons (zk_iload (pc := 97) (by decide +kernel)) (
  zcons (zk_ifne (pc := 99) (off := 8) (by decide) (by decide +kernel)) (
  zcons (zk_lload (pc := 102) (by decide +kernel)) (
  zcons (zk_goto (pc := 104) (off := 5) (by decide) (by decide +kernel)) (
  zcons (zk_lload (pc := 107) (by decide +kernel)) (
  zcons (zk_lload (pc := 109) (by decide +kernel)) (
  zcons (zk_ldiv (pc := 111) (by decide +kernel)) (
  zcons (zk_retj (pc := 112) rfl (by decide +kernel)) (znil))))))))))))))))))))))))))))))))))))))))))))))))))))))))
def tb_X7_drawn : List (Nat × ZP) := [(0, zo_al 0 1), (1, zo_cvi 7 122 0 4), (4, zo_ifne 10 7), (7, zo_i (-1000002) 9), (9, zo_reti), (10, zo_il 1 11), (11, zo_iflt 39 14), (14, zo_il 1 15), (15, zo_i 60 17), (17, zo_icgt 39 20), (20, zo_il 2 21), (21, zo_i 1 22), (22, zo_iclt 39 25), (25, zo_il 2 26), (26, zo_i 999999 29), (29, zo_icgt 39 32), (32, zo_il 3 33), (33, zo_csi 128 1 36), (36, zo_ifne 42 39), (39, zo_i (-1000001) 41), (41, zo_reti), (42, zo_al 0 43), (43, zo_getr 7 3 46), (46, zo_al 0 47), (47, zo_getr 7 2 50), (50, zo_cvv 5 57 1 53), (53, zo_al 0 54), (54, zo_getr 7 6 57), (57, zo_al 0 58), (58, zo_getr 7 2 61), (61, zo_cvv 2 11 1 64), (64, zo_il 2 65), (65, zo_i2l 66), (66, zo_ls 4 68), (68, zo_i 0 69), (69, zo_is 6 71), (71, zo_il 6 73), (73, zo_il 1 74), (74, zo_icge 105 77), (77, zo_ll 4 79), (79, zo_l 16807 82), (82, zo_lbin (· * ·) 83), (83, zo_l 2147483647 86), (86, zo_ldv zlrem 87), (87, zo_ls 4 89), (89, zo_al 0 90), (90, zo_al 0 91), (91, zo_getr 7 3 94), (94, zo_ll 4 96), (96, zo_cvv 7 132 2 99), (99, zo_inc 6 1 102), (102, zo_goto 71), (105, zo_il 3 106), (106, zo_ifne 119 109), (109, zo_al 0 110), (110, zo_getr 7 3 113), (113, zo_cvi 5 65 0 116), (116, zo_goto 126), (119, zo_al 0 120), (120, zo_getr 7 3 123), (123, zo_get 5 4 126), (126, zo_reti)]
def cu_X7_drawn : List (Nat × List Bool) := [(71, [true, true, false, true, true, false, true])]
set_option maxRecDepth 100000 in
set_option maxHeartbeats 4000000 in
theorem ok_X7_drawn : ∀ e ∈ tb_X7_drawn, ZOK zmt cX7_drawn RX7 1 e.1 e.2 :=
  zcons (zk_aload_n (pc := 0) (j := 0) rfl (by decide +kernel)) (
  zcons (zk_cvi (pc := 1) 122 rfl (ci := 7) rfl zw_529 zw_531 zsel_X7_isThere zds_X7_isThere (by decide) zw_532 zw_1 (by decide +kernel)) (
  zcons (zk_ifne (pc := 4) (off := 6) (by decide) (by decide +kernel)) (
  zcons (zk_ldc (pc := 7) zw_440 (by decide +kernel)) (
  zcons (zk_reti (pc := 9) rfl (by decide +kernel)) (
  zcons (zk_iload_n (pc := 10) (j := 1) rfl (by decide +kernel)) (
  zcons (zk_iflt (pc := 11) (off := 28) (by decide) (by decide +kernel)) (
  zcons (zk_iload_n (pc := 14) (j := 1) rfl (by decide +kernel)) (
  zcons (zk_bipush (pc := 15) (z := 60) (by decide) (by decide +kernel)) (
  zcons (zk_icgt (pc := 17) (off := 22) (by decide) (by decide +kernel)) (
  zcons (zk_iload_n (pc := 20) (j := 2) rfl (by decide +kernel)) (
  zcons (zk_iconst (pc := 21) (z := 1) (by decide) (by decide +kernel)) (
  zcons (zk_iclt (pc := 22) (off := 17) (by decide) (by decide +kernel)) (
  zcons (zk_iload_n (pc := 25) (j := 2) rfl (by decide +kernel)) (
  zcons (zk_ldcw (pc := 26) zw_836 (by decide +kernel)) (
  zcons (zk_icgt (pc := 29) (off := 10) (by decide) (by decide +kernel)) (
  zcons (zk_iload_n (pc := 32) (j := 3) rfl (by decide +kernel)) (
  zcons (zk_csi (pc := 33) 128 rfl zw_641 zw_642 zds_X7_isEither (by decide) zw_643 zw_1 (by decide +kernel)) (
  zcons (zk_ifne (pc := 36) (off := 6) (by decide) (by decide +kernel)) (
  zcons (zk_ldc (pc := 39) zw_292 (by decide +kernel)) (
  zcons (zk_reti (pc := 41) rfl (by decide +kernel)) (
  zcons (zk_aload_n (pc := 42) (j := 0) rfl (by decide +kernel)) (
  zcons (zk_getr (pc := 43) (ci := 7) (j := 3) rfl zinX7 (by decide) zw_257 (by decide +kernel)) (
  zcons (zk_aload_n (pc := 46) (j := 0) rfl (by decide +kernel)) (
  zcons (zk_getr (pc := 47) (ci := 7) (j := 2) rfl zinX7 (by decide) zw_256 (by decide +kernel)) (
  zcons (zk_cvvN (pc := 50) 57 rfl (ci := 5) rfl zw_413 zw_415 zsel_X5_become zds_X5_become (by decide) zw_416 zw_3 (by decide +kernel)) (
  zcons (zk_aload_n (pc := 53) (j := 0) rfl (by decide +kernel)) (
  zcons (zk_getr (pc := 54) (ci := 7) (j := 6) rfl zinX7 (by decide) zw_260 (by decide +kernel)) (
  zcons (zk_aload_n (pc := 57) (j := 0) rfl (by decide +kernel)) (
  zcons (zk_getr (pc := 58) (ci := 7) (j := 2) rfl zinX7 (by decide) zw_256 (by decide +kernel)) (
  zcons (zk_cvvN (pc := 61) 11 rfl (ci := 2) rfl zw_611 zw_613 zsel_X2_weigh zds_X2_weigh (by decide) zw_614 zw_5 (by decide +kernel)) (
  zcons (zk_iload_n (pc := 64) (j := 2) rfl (by decide +kernel)) (
  zcons (zk_i2l (pc := 65) (by decide +kernel)) (
  zcons (zk_lstore (pc := 66) (by decide +kernel)) (
  zcons (zk_iconst (pc := 68) (z := 0) (by decide) (by decide +kernel)) (
  zcons (zk_istore (pc := 69) (by decide +kernel)) (
  zcons (zk_iload (pc := 71) (by decide +kernel)) (
  zcons (zk_iload_n (pc := 73) (j := 1) rfl (by decide +kernel)) (
  zcons (zk_icge (pc := 74) (off := 31) (by decide) (by decide +kernel)) (
  zcons (zk_lload (pc := 77) (by decide +kernel)) (
  zcons (zk_ldc2 (pc := 79) zw_837 (by decide +kernel)) (
  zcons (zk_lmul (pc := 82) (by decide +kernel)) (
  zcons (zk_ldc2 (pc := 83) zw_838 (by decide +kernel)) (
  zcons (zk_lrem (pc := 86) (by decide +kernel)) (
  zcons (zk_lstore (pc := 87) (by decide +kernel)) (
  zcons (zk_aload_n (pc := 89) (j := 0) rfl (by decide +kernel)) (
  zcons (zk_aload_n (pc := 90) (j := 0) rfl (by decide +kernel)) (
  zcons (zk_getr (pc := 91) (ci := 7) (j := 3) rfl zinX7 (by decide) zw_257 (by decide +kernel)) (
  zcons (zk_lload (pc := 94) (by decide +kernel)) (
  zcons (zk_cvv (pc := 96) 132 rfl (ci := 7) rfl zw_839 zw_841 zsel_X7_liveDay zds_X7_liveDay (by decide) zw_842 zw_1 (by decide +kernel)) (
  zcons (zk_iinc (pc := 99) (z := 1) (by decide) (by decide +kernel)) (
  zcons (zk_goto (pc := 102) (off := (-31)) (by decide) (by decide +kernel)) (
  zcons (zk_iload_n (pc := 105) (j := 3) rfl (by decide +kernel)) (
  zcons (zk_ifne (pc := 106) (off := 13) (by decide) (by decide +kernel)) (
  zcons (zk_aload_n (pc := 109) (j := 0) rfl (by decide +kernel)) (
  zcons (zk_getr (pc := 110) (ci := 7) (j := 3) rfl zinX7 (by decide) zw_257 (by decide +kernel)) (
  zcons (zk_cviN (pc := 113) 65 rfl (ci := 5) rfl zw_555 zw_557 zsel_X5_served zds_X5_served (by decide) zw_558 zw_3 (by decide +kernel)) (
  zcons (zk_goto (pc := 116) (off := 10) (by decide) (by decide +kernel)) (
  zcons (zk_aload_n (pc := 119) (j := 0) rfl (by decide +kernel)) (
  zcons (zk_getr (pc := 120) (ci := 7) (j := 3) rfl zinX7 (by decide) zw_257 (by decide +kernel)) (
  zcons (zk_getN (pc := 123) (ci := 5) (j := 4) rfl zinX5 (by decide) zw_77 (by decide +kernel)) (
  zcons (zk_reti (pc := 126) rfl (by decide +kernel)) (znil))))))))))))))))))))))))))))))))))))))))))))))))))))))))))))))
def tb_X7_image : List (Nat × ZP) := [(0, zo_il 1 1), (1, zo_csi 128 1 4), (4, zo_ifne 10 7), (7, zo_i (-1000001) 9), (9, zo_reti), (10, zo_al 0 11), (11, zo_cvi 7 122 0 14), (14, zo_ifne 20 17), (17, zo_i (-1000002) 19), (19, zo_reti), (20, zo_al 0 21), (21, zo_getr 7 4 24), (24, zo_il 1 25), (25, zo_aald 4 26), (26, zo_al 0 27), (27, zo_getr 7 2 30), (30, zo_cvv 5 57 1 33), (33, zo_i 1 34), (34, zo_reti)]
def cu_X7_image : List (Nat × List Bool) := []
set_option maxRecDepth 100000 in
set_option maxHeartbeats 4000000 in
theorem ok_X7_image : ∀ e ∈ tb_X7_image, ZOK zmt cX7_image RX7 1 e.1 e.2 :=
  zcons (zk_iload_n (pc := 0) (j := 1) rfl (by decide +kernel)) (
  zcons (zk_csi (pc := 1) 128 rfl zw_641 zw_642 zds_X7_isEither (by decide) zw_643 zw_1 (by decide +kernel)) (
  zcons (zk_ifne (pc := 4) (off := 6) (by decide) (by decide +kernel)) (
  zcons (zk_ldc (pc := 7) zw_292 (by decide +kernel)) (
  zcons (zk_reti (pc := 9) rfl (by decide +kernel)) (
  zcons (zk_aload_n (pc := 10) (j := 0) rfl (by decide +kernel)) (
  zcons (zk_cvi (pc := 11) 122 rfl (ci := 7) rfl zw_529 zw_531 zsel_X7_isThere zds_X7_isThere (by decide) zw_532 zw_1 (by decide +kernel)) (
  zcons (zk_ifne (pc := 14) (off := 6) (by decide) (by decide +kernel)) (
  zcons (zk_ldc (pc := 17) zw_440 (by decide +kernel)) (
  zcons (zk_reti (pc := 19) rfl (by decide +kernel)) (
  zcons (zk_aload_n (pc := 20) (j := 0) rfl (by decide +kernel)) (
  zcons (zk_getr (pc := 21) (ci := 7) (j := 4) rfl zinX7 (by decide) zw_258 (by decide +kernel)) (
  zcons (zk_iload_n (pc := 24) (j := 1) rfl (by decide +kernel)) (
  zcons (zk_aaload (pc := 25) (t := 4) (fun _ => rfl) (by decide +kernel)) (
  zcons (zk_aload_n (pc := 26) (j := 0) rfl (by decide +kernel)) (
  zcons (zk_getr (pc := 27) (ci := 7) (j := 2) rfl zinX7 (by decide) zw_256 (by decide +kernel)) (
  zcons (zk_cvvN (pc := 30) 57 rfl (ci := 5) rfl zw_413 zw_415 zsel_X5_become zds_X5_become (by decide) zw_416 zw_3 (by decide +kernel)) (
  zcons (zk_iconst (pc := 33) (z := 1) (by decide) (by decide +kernel)) (
  zcons (zk_reti (pc := 34) rfl (by decide +kernel)) (znil)))))))))))))))))))
def tb_X7_restore : List (Nat × ZP) := [(0, zo_il 1 1), (1, zo_csi 128 1 4), (4, zo_ifne 10 7), (7, zo_i (-1000001) 9), (9, zo_reti), (10, zo_al 0 11), (11, zo_getr 7 4 14), (14, zo_il 1 15), (15, zo_aald 4 16), (16, zo_get 5 1 19), (19, zo_ifne 25 22), (22, zo_i (-1000002) 24), (24, zo_reti), (25, zo_al 0 26), (26, zo_al 0 27), (27, zo_getr 7 4 30), (30, zo_il 1 31), (31, zo_aald 4 32), (32, zo_cvv 7 131 1 35), (35, zo_i 1 36), (36, zo_reti)]
def cu_X7_restore : List (Nat × List Bool) := []
set_option maxRecDepth 100000 in
set_option maxHeartbeats 4000000 in
theorem ok_X7_restore : ∀ e ∈ tb_X7_restore, ZOK zmt cX7_restore RX7 1 e.1 e.2 :=
  zcons (zk_iload_n (pc := 0) (j := 1) rfl (by decide +kernel)) (
  zcons (zk_csi (pc := 1) 128 rfl zw_641 zw_642 zds_X7_isEither (by decide) zw_643 zw_1 (by decide +kernel)) (
  zcons (zk_ifne (pc := 4) (off := 6) (by decide) (by decide +kernel)) (
  zcons (zk_ldc (pc := 7) zw_292 (by decide +kernel)) (
  zcons (zk_reti (pc := 9) rfl (by decide +kernel)) (
  zcons (zk_aload_n (pc := 10) (j := 0) rfl (by decide +kernel)) (
  zcons (zk_getr (pc := 11) (ci := 7) (j := 4) rfl zinX7 (by decide) zw_258 (by decide +kernel)) (
  zcons (zk_iload_n (pc := 14) (j := 1) rfl (by decide +kernel)) (
  zcons (zk_aaload (pc := 15) (t := 4) (fun _ => rfl) (by decide +kernel)) (
  zcons (zk_getN (pc := 16) (ci := 5) (j := 1) rfl zinX5 (by decide) zw_67 (by decide +kernel)) (
  zcons (zk_ifne (pc := 19) (off := 6) (by decide) (by decide +kernel)) (
  zcons (zk_ldc (pc := 22) zw_440 (by decide +kernel)) (
  zcons (zk_reti (pc := 24) rfl (by decide +kernel)) (
  zcons (zk_aload_n (pc := 25) (j := 0) rfl (by decide +kernel)) (
  zcons (zk_aload_n (pc := 26) (j := 0) rfl (by decide +kernel)) (
  zcons (zk_getr (pc := 27) (ci := 7) (j := 4) rfl zinX7 (by decide) zw_258 (by decide +kernel)) (
  zcons (zk_iload_n (pc := 30) (j := 1) rfl (by decide +kernel)) (
  zcons (zk_aaload (pc := 31) (t := 4) (fun _ => rfl) (by decide +kernel)) (
  zcons (zk_cvv (pc := 32) 131 rfl (ci := 7) rfl zw_409 zw_411 zsel_X7_putInPlace zds_X7_putInPlace (by decide) zw_412 zw_1 (by decide +kernel)) (
  zcons (zk_iconst (pc := 35) (z := 1) (by decide) (by decide +kernel)) (
  zcons (zk_reti (pc := 36) rfl (by decide +kernel)) (znil)))))))))))))))))))))
def tb_X7_kind : List (Nat × ZP) := [(0, zo_al 0 1), (1, zo_il 1 2), (2, zo_cvi 7 123 1 5), (5, zo_ifeq 20 8), (8, zo_al 0 9), (9, zo_getr 7 2 12), (12, zo_getr 5 9 15), (15, zo_il 1 16), (16, zo_iald 17), (17, zo_goto 22), (20, zo_i (-1000001) 22), (22, zo_reti)]
def cu_X7_kind : List (Nat × List Bool) := []
set_option maxRecDepth 100000 in
set_option maxHeartbeats 4000000 in
theorem ok_X7_kind : ∀ e ∈ tb_X7_kind, ZOK zmt cX7_kind RX7 1 e.1 e.2 :=
  zcons (zk_aload_n (pc := 0) (j := 0) rfl (by decide +kernel)) (
  zcons (zk_iload_n (pc := 1) (j := 1) rfl (by decide +kernel)) (
  zcons (zk_cvi (pc := 2) 123 rfl (ci := 7) rfl zw_505 zw_507 zsel_X7_isCell zds_X7_isCell (by decide) zw_508 zw_1 (by decide +kernel)) (
  zcons (zk_ifeq (pc := 5) (off := 15) (by decide) (by decide +kernel)) (
  zcons (zk_aload_n (pc := 8) (j := 0) rfl (by decide +kernel)) (
  zcons (zk_getr (pc := 9) (ci := 7) (j := 2) rfl zinX7 (by decide) zw_256 (by decide +kernel)) (
  zcons (zk_getrN (pc := 12) (ci := 5) (j := 9) rfl zinX5 (by decide) zw_91 (by decide +kernel)) (
  zcons (zk_iload_n (pc := 15) (j := 1) rfl (by decide +kernel)) (
  zcons (zk_iaload (pc := 16) (by decide +kernel)) (
  zcons (zk_goto (pc := 17) (off := 5) (by decide) (by decide +kernel)) (
  zcons (zk_ldc (pc := 20) zw_292 (by decide +kernel)) (
  zcons (zk_reti (pc := 22) rfl (by decide +kernel)) (znil))))))))))))
def tb_X7_as : List (Nat × ZP) := [(0, zo_al 0 1), (1, zo_il 1 2), (2, zo_cvi 7 123 1 5), (5, zo_ifeq 18 8), (8, zo_il 2 9), (9, zo_iflt 18 12), (12, zo_il 2 13), (13, zo_i 6 15), (15, zo_iclt 21 18), (18, zo_i (-1000001) 20), (20, zo_reti), (21, zo_al 0 22), (22, zo_getr 7 2 25), (25, zo_getr 5 9 28), (28, zo_il 1 29), (29, zo_iald 30), (30, zo_il 2 31), (31, zo_csi 2 2 34), (34, zo_ifeq 45 37), (37, zo_al 0 38), (38, zo_il 1 39), (39, zo_cvi 7 121 1 42), (42, zo_goto 50), (45, zo_al 0 46), (46, zo_i 3 47), (47, zo_cvi 7 120 1 50), (50, zo_reti)]
def cu_X7_as : List (Nat × List Bool) := []
set_option maxRecDepth 100000 in
set_option maxHeartbeats 4000000 in
theorem ok_X7_as : ∀ e ∈ tb_X7_as, ZOK zmt cX7_as RX7 1 e.1 e.2 :=
  zcons (zk_aload_n (pc := 0) (j := 0) rfl (by decide +kernel)) (
  zcons (zk_iload_n (pc := 1) (j := 1) rfl (by decide +kernel)) (
  zcons (zk_cvi (pc := 2) 123 rfl (ci := 7) rfl zw_505 zw_507 zsel_X7_isCell zds_X7_isCell (by decide) zw_508 zw_1 (by decide +kernel)) (
  zcons (zk_ifeq (pc := 5) (off := 13) (by decide) (by decide +kernel)) (
  zcons (zk_iload_n (pc := 8) (j := 2) rfl (by decide +kernel)) (
  zcons (zk_iflt (pc := 9) (off := 9) (by decide) (by decide +kernel)) (
  zcons (zk_iload_n (pc := 12) (j := 2) rfl (by decide +kernel)) (
  zcons (zk_bipush (pc := 13) (z := 6) (by decide) (by decide +kernel)) (
  zcons (zk_iclt (pc := 15) (off := 6) (by decide) (by decide +kernel)) (
  zcons (zk_ldc (pc := 18) zw_292 (by decide +kernel)) (
  zcons (zk_reti (pc := 20) rfl (by decide +kernel)) (
  zcons (zk_aload_n (pc := 21) (j := 0) rfl (by decide +kernel)) (
  zcons (zk_getr (pc := 22) (ci := 7) (j := 2) rfl zinX7 (by decide) zw_256 (by decide +kernel)) (
  zcons (zk_getrN (pc := 25) (ci := 5) (j := 9) rfl zinX5 (by decide) zw_91 (by decide +kernel)) (
  zcons (zk_iload_n (pc := 28) (j := 1) rfl (by decide +kernel)) (
  zcons (zk_iaload (pc := 29) (by decide +kernel)) (
  zcons (zk_iload_n (pc := 30) (j := 2) rfl (by decide +kernel)) (
  zcons (zk_csiN (pc := 31) 2 rfl zw_863 zw_864 zds_X1_isAlso (by decide) zw_865 zw_6 (by decide +kernel)) (
  zcons (zk_ifeq (pc := 34) (off := 11) (by decide) (by decide +kernel)) (
  zcons (zk_aload_n (pc := 37) (j := 0) rfl (by decide +kernel)) (
  zcons (zk_iload_n (pc := 38) (j := 1) rfl (by decide +kernel)) (
  zcons (zk_cvi (pc := 39) 121 rfl (ci := 7) rfl zw_305 zw_307 zsel_X7_fine zds_X7_fine (by decide) zw_308 zw_1 (by decide +kernel)) (
  zcons (zk_goto (pc := 42) (off := 8) (by decide) (by decide +kernel)) (
  zcons (zk_aload_n (pc := 45) (j := 0) rfl (by decide +kernel)) (
  zcons (zk_iconst (pc := 46) (z := 3) (by decide) (by decide +kernel)) (
  zcons (zk_cvi (pc := 47) 120 rfl (ci := 7) rfl zw_293 zw_295 zsel_X7_found zds_X7_found (by decide) zw_296 zw_1 (by decide +kernel)) (
  zcons (zk_reti (pc := 50) rfl (by decide +kernel)) (znil)))))))))))))))))))))))))))
def tb_X7_ask : List (Nat × ZP) := [(0, zo_al 0 1), (1, zo_il 1 2), (2, zo_cvi 7 123 1 5), (5, zo_ifeq 15 8), (8, zo_il 2 9), (9, zo_csi 128 1 12), (12, zo_ifne 18 15), (15, zo_i (-1000001) 17), (17, zo_reti), (18, zo_al 0 19), (19, zo_getr 7 7 22), (22, zo_al 0 23), (23, zo_getr 7 2 26), (26, zo_il 1 27), (27, zo_il 2 28), (28, zo_cvi 1 4 3 31), (31, zo_reti)]
def cu_X7_ask : List (Nat × List Bool) := []
set_option maxRecDepth 100000 in
set_option maxHeartbeats 4000000 in
theorem ok_X7_ask : ∀ e ∈ tb_X7_ask, ZOK zmt cX7_ask RX7 1 e.1 e.2 :=
  zcons (zk_aload_n (pc := 0) (j := 0) rfl (by decide +kernel)) (
  zcons (zk_iload_n (pc := 1) (j := 1) rfl (by decide +kernel)) (
  zcons (zk_cvi (pc := 2) 123 rfl (ci := 7) rfl zw_505 zw_507 zsel_X7_isCell zds_X7_isCell (by decide) zw_508 zw_1 (by decide +kernel)) (
  zcons (zk_ifeq (pc := 5) (off := 10) (by decide) (by decide +kernel)) (
  zcons (zk_iload_n (pc := 8) (j := 2) rfl (by decide +kernel)) (
  zcons (zk_csi (pc := 9) 128 rfl zw_641 zw_642 zds_X7_isEither (by decide) zw_643 zw_1 (by decide +kernel)) (
  zcons (zk_ifne (pc := 12) (off := 6) (by decide) (by decide +kernel)) (
  zcons (zk_ldc (pc := 15) zw_292 (by decide +kernel)) (
  zcons (zk_reti (pc := 17) rfl (by decide +kernel)) (
  zcons (zk_aload_n (pc := 18) (j := 0) rfl (by decide +kernel)) (
  zcons (zk_getr (pc := 19) (ci := 7) (j := 7) rfl zinX7 (by decide) zw_261 (by decide +kernel)) (
  zcons (zk_aload_n (pc := 22) (j := 0) rfl (by decide +kernel)) (
  zcons (zk_getr (pc := 23) (ci := 7) (j := 2) rfl zinX7 (by decide) zw_256 (by decide +kernel)) (
  zcons (zk_iload_n (pc := 26) (j := 1) rfl (by decide +kernel)) (
  zcons (zk_iload_n (pc := 27) (j := 2) rfl (by decide +kernel)) (
  zcons (zk_cviN (pc := 28) 4 rfl (ci := 1) rfl zw_875 zw_877 zsel_X1_answer zds_X1_answer (by decide) zw_878 zw_6 (by decide +kernel)) (
  zcons (zk_reti (pc := 31) rfl (by decide +kernel)) (znil)))))))))))))))))
def tb_X7_trace : List (Nat × ZP) := [(0, zo_il 1 1), (1, zo_iflt 27 4), (4, zo_il 1 5), (5, zo_al 0 6), (6, zo_getr 7 7 9), (9, zo_get 1 1 12), (12, zo_icge 27 15), (15, zo_al 0 16), (16, zo_getr 7 7 19), (19, zo_getr 1 0 22), (22, zo_il 1 23), (23, zo_iald 24), (24, zo_goto 30), (27, zo_i (-1000000) 30), (30, zo_reti)]
def cu_X7_trace : List (Nat × List Bool) := []
set_option maxRecDepth 100000 in
set_option maxHeartbeats 4000000 in
theorem ok_X7_trace : ∀ e ∈ tb_X7_trace, ZOK zmt cX7_trace RX7 1 e.1 e.2 :=
  zcons (zk_iload_n (pc := 0) (j := 1) rfl (by decide +kernel)) (
  zcons (zk_iflt (pc := 1) (off := 26) (by decide) (by decide +kernel)) (
  zcons (zk_iload_n (pc := 4) (j := 1) rfl (by decide +kernel)) (
  zcons (zk_aload_n (pc := 5) (j := 0) rfl (by decide +kernel)) (
  zcons (zk_getr (pc := 6) (ci := 7) (j := 7) rfl zinX7 (by decide) zw_261 (by decide +kernel)) (
  zcons (zk_getN (pc := 9) (ci := 1) (j := 1) rfl zinX1 (by decide) zw_197 (by decide +kernel)) (
  zcons (zk_icge (pc := 12) (off := 15) (by decide) (by decide +kernel)) (
  zcons (zk_aload_n (pc := 15) (j := 0) rfl (by decide +kernel)) (
  zcons (zk_getr (pc := 16) (ci := 7) (j := 7) rfl zinX7 (by decide) zw_261 (by decide +kernel)) (
  zcons (zk_getrN (pc := 19) (ci := 1) (j := 0) rfl zinX1 (by decide) zw_195 (by decide +kernel)) (
  zcons (zk_iload_n (pc := 22) (j := 1) rfl (by decide +kernel)) (
  zcons (zk_iaload (pc := 23) (by decide +kernel)) (
  zcons (zk_goto (pc := 24) (off := 6) (by decide) (by decide +kernel)) (
  zcons (zk_ldcw (pc := 27) zw_657 (by decide +kernel)) (
  zcons (zk_reti (pc := 30) rfl (by decide +kernel)) (znil)))))))))))))))
def tb_X7_count : List (Nat × ZP) := [(0, zo_il 1 1), (1, zo_sw [(0, 48), (1, 53), (2, 61), (3, 69), (4, 80), (5, 88), (6, 96), (7, 104)] 112), (48, zo_al 0 49), (49, zo_cvi 7 130 0 52), (52, zo_reti), (53, zo_al 0 54), (54, zo_getr 7 2 57), (57, zo_get 5 1 60), (60, zo_reti), (61, zo_al 0 62), (62, zo_getr 7 2 65), (65, zo_get 5 2 68), (68, zo_reti), (69, zo_al 0 70), (70, zo_getr 7 2 73), (73, zo_get 5 5 76), (76, zo_csi 233 1 79), (79, zo_reti), (80, zo_al 0 81), (81, zo_getr 7 2 84), (84, zo_cvi 5 65 0 87), (87, zo_reti), (88, zo_al 0 89), (89, zo_getr 7 2 92), (92, zo_get 5 4 95), (95, zo_reti), (96, zo_al 0 97), (97, zo_getr 7 5 100), (100, zo_get 0 4 103), (103, zo_reti), (104, zo_al 0 105), (105, zo_getr 7 1 108), (108, zo_get 3 1 111), (111, zo_reti), (112, zo_i (-1000001) 114), (114, zo_reti)]
def cu_X7_count : List (Nat × List Bool) := []
set_option maxRecDepth 100000 in
set_option maxHeartbeats 4000000 in
theorem ok_X7_count : ∀ e ∈ tb_X7_count, ZOK zmt cX7_count RX7 1 e.1 e.2 :=
  zcons (zk_iload_n (pc := 0) (j := 1) rfl (by decide +kernel)) (
  zcons (zk_table (pc := 1) (dflt := 111) (lw := 0) (hi := 7) (offs := #[47, 52, 60, 68, 79, 87, 95, 103]) (len := 47) (by decide +kernel) (by decide +kernel)) (
  zcons (zk_aload_n (pc := 48) (j := 0) rfl (by decide +kernel)) (
  zcons (zk_cvi (pc := 49) 130 rfl (ci := 7) rfl zw_906 zw_908 zsel_X7_countRows zds_X7_countRows (by decide) zw_909 zw_1 (by decide +kernel)) (
  zcons (zk_reti (pc := 52) rfl (by decide +kernel)) (
  zcons (zk_aload_n (pc := 53) (j := 0) rfl (by decide +kernel)) (
  zcons (zk_getr (pc := 54) (ci := 7) (j := 2) rfl zinX7 (by decide) zw_256 (by decide +kernel)) (
  zcons (zk_getN (pc := 57) (ci := 5) (j := 1) rfl zinX5 (by decide) zw_67 (by decide +kernel)) (
  zcons (zk_reti (pc := 60) rfl (by decide +kernel)) (
  zcons (zk_aload_n (pc := 61) (j := 0) rfl (by decide +kernel)) (
  zcons (zk_getr (pc := 62) (ci := 7) (j := 2) rfl zinX7 (by decide) zw_256 (by decide +kernel)) (
  zcons (zk_getN (pc := 65) (ci := 5) (j := 2) rfl zinX5 (by decide) zw_70 (by decide +kernel)) (
  zcons (zk_reti (pc := 68) rfl (by decide +kernel)) (
  zcons (zk_aload_n (pc := 69) (j := 0) rfl (by decide +kernel)) (
  zcons (zk_getr (pc := 70) (ci := 7) (j := 2) rfl zinX7 (by decide) zw_256 (by decide +kernel)) (
  zcons (zk_getN (pc := 73) (ci := 5) (j := 5) rfl zinX5 (by decide) zw_80 (by decide +kernel)) (
  zcons (zk_csi (pc := 76) 233 rfl zw_517 zw_423 zds_J6_bitCount_0f7a4 (by decide) zw_424 zw_13 (by decide +kernel)) (
  zcons (zk_reti (pc := 79) rfl (by decide +kernel)) (
  zcons (zk_aload_n (pc := 80) (j := 0) rfl (by decide +kernel)) (
  zcons (zk_getr (pc := 81) (ci := 7) (j := 2) rfl zinX7 (by decide) zw_256 (by decide +kernel)) (
  zcons (zk_cviN (pc := 84) 65 rfl (ci := 5) rfl zw_555 zw_557 zsel_X5_served zds_X5_served (by decide) zw_558 zw_3 (by decide +kernel)) (
  zcons (zk_reti (pc := 87) rfl (by decide +kernel)) (
  zcons (zk_aload_n (pc := 88) (j := 0) rfl (by decide +kernel)) (
  zcons (zk_getr (pc := 89) (ci := 7) (j := 2) rfl zinX7 (by decide) zw_256 (by decide +kernel)) (
  zcons (zk_getN (pc := 92) (ci := 5) (j := 4) rfl zinX5 (by decide) zw_77 (by decide +kernel)) (
  zcons (zk_reti (pc := 95) rfl (by decide +kernel)) (
  zcons (zk_aload_n (pc := 96) (j := 0) rfl (by decide +kernel)) (
  zcons (zk_getr (pc := 97) (ci := 7) (j := 5) rfl zinX7 (by decide) zw_259 (by decide +kernel)) (
  zcons (zk_getN (pc := 100) (ci := 0) (j := 4) rfl zinX0 (by decide) zw_143 (by decide +kernel)) (
  zcons (zk_reti (pc := 103) rfl (by decide +kernel)) (
  zcons (zk_aload_n (pc := 104) (j := 0) rfl (by decide +kernel)) (
  zcons (zk_getr (pc := 105) (ci := 7) (j := 1) rfl zinX7 (by decide) zw_255 (by decide +kernel)) (
  zcons (zk_getN (pc := 108) (ci := 3) (j := 1) rfl zinX3 (by decide) zw_32 (by decide +kernel)) (
  zcons (zk_reti (pc := 111) rfl (by decide +kernel)) (
  zcons (zk_ldc (pc := 112) zw_292 (by decide +kernel)) (
  zcons (zk_reti (pc := 114) rfl (by decide +kernel)) (znil))))))))))))))))))))))))))))))))))))
def tb_X7_status : List (Nat × ZP) := [(0, zo_al 0 1), (1, zo_get 7 9 4), (4, zo_reti)]
def cu_X7_status : List (Nat × List Bool) := []
set_option maxRecDepth 100000 in
set_option maxHeartbeats 4000000 in
theorem ok_X7_status : ∀ e ∈ tb_X7_status, ZOK zmt cX7_status RX7 1 e.1 e.2 :=
  zcons (zk_aload_n (pc := 0) (j := 0) rfl (by decide +kernel)) (
  zcons (zk_get (pc := 1) (ci := 7) (j := 9) rfl zinX7 (by decide) zw_263 (by decide +kernel)) (
  zcons (zk_reti (pc := 4) rfl (by decide +kernel)) (znil)))
def tb_X7_found : List (Nat × ZP) := [(0, zo_al 0 1), (1, zo_il 1 2), (2, zo_put 7 9 5), (5, zo_i (-1000010) 8), (8, zo_il 1 9), (9, zo_bin (· - ·) 10), (10, zo_reti)]
def cu_X7_found : List (Nat × List Bool) := []
set_option maxRecDepth 100000 in
set_option maxHeartbeats 4000000 in
theorem ok_X7_found : ∀ e ∈ tb_X7_found, ZOK zmt cX7_found RX7 1 e.1 e.2 :=
  zcons (zk_aload_n (pc := 0) (j := 0) rfl (by decide +kernel)) (
  zcons (zk_iload_n (pc := 1) (j := 1) rfl (by decide +kernel)) (
  zcons (zk_put (pc := 2) (ci := 7) (j := 9) rfl zinX7 (by decide) zw_263 tyX7 tyX7_ok nmX7 rfl (by decide +kernel) (by decide +kernel)) (
  zcons (zk_ldcw (pc := 5) zw_297 (by decide +kernel)) (
  zcons (zk_iload_n (pc := 8) (j := 1) rfl (by decide +kernel)) (
  zcons (zk_isub (pc := 9) (by decide +kernel)) (
  zcons (zk_reti (pc := 10) rfl (by decide +kernel)) (znil)))))))
def tb_X7_fine : List (Nat × ZP) := [(0, zo_al 0 1), (1, zo_i 0 2), (2, zo_put 7 9 5), (5, zo_il 1 6), (6, zo_reti)]
def cu_X7_fine : List (Nat × List Bool) := []
set_option maxRecDepth 100000 in
set_option maxHeartbeats 4000000 in
theorem ok_X7_fine : ∀ e ∈ tb_X7_fine, ZOK zmt cX7_fine RX7 1 e.1 e.2 :=
  zcons (zk_aload_n (pc := 0) (j := 0) rfl (by decide +kernel)) (
  zcons (zk_iconst (pc := 1) (z := 0) (by decide) (by decide +kernel)) (
  zcons (zk_put (pc := 2) (ci := 7) (j := 9) rfl zinX7 (by decide) zw_263 tyX7 tyX7_ok nmX7 rfl (by decide +kernel) (by decide +kernel)) (
  zcons (zk_iload_n (pc := 5) (j := 1) rfl (by decide +kernel)) (
  zcons (zk_reti (pc := 6) rfl (by decide +kernel)) (znil)))))
def tb_X7_isThere : List (Nat × ZP) := [(0, zo_al 0 1), (1, zo_getr 7 2 4), (4, zo_get 5 1 7), (7, zo_ifle 14 10), (10, zo_i 1 11), (11, zo_goto 15), (14, zo_i 0 15), (15, zo_retz)]
def cu_X7_isThere : List (Nat × List Bool) := []
set_option maxRecDepth 100000 in
set_option maxHeartbeats 4000000 in
theorem ok_X7_isThere : ∀ e ∈ tb_X7_isThere, ZOK zmt cX7_isThere RX7 3 e.1 e.2 :=
  zcons (zk_aload_n (pc := 0) (j := 0) rfl (by decide +kernel)) (
  zcons (zk_getr (pc := 1) (ci := 7) (j := 2) rfl zinX7 (by decide) zw_256 (by decide +kernel)) (
  zcons (zk_getN (pc := 4) (ci := 5) (j := 1) rfl zinX5 (by decide) zw_67 (by decide +kernel)) (
  zcons (zk_ifle (pc := 7) (off := 7) (by decide) (by decide +kernel)) (
  zcons (zk_iconst (pc := 10) (z := 1) (by decide) (by decide +kernel)) (
  zcons (zk_goto (pc := 11) (off := 4) (by decide) (by decide +kernel)) (
  zcons (zk_iconst (pc := 14) (z := 0) (by decide) (by decide +kernel)) (
  zcons (zk_retz (pc := 15) rfl (by decide +kernel)) (znil))))))))
def tb_X7_isCell : List (Nat × ZP) := [(0, zo_il 1 1), (1, zo_iflt 19 4), (4, zo_il 1 5), (5, zo_al 0 6), (6, zo_getr 7 2 9), (9, zo_get 5 1 12), (12, zo_icge 19 15), (15, zo_i 1 16), (16, zo_goto 20), (19, zo_i 0 20), (20, zo_retz)]
def cu_X7_isCell : List (Nat × List Bool) := []
set_option maxRecDepth 100000 in
set_option maxHeartbeats 4000000 in
theorem ok_X7_isCell : ∀ e ∈ tb_X7_isCell, ZOK zmt cX7_isCell RX7 3 e.1 e.2 :=
  zcons (zk_iload_n (pc := 0) (j := 1) rfl (by decide +kernel)) (
  zcons (zk_iflt (pc := 1) (off := 18) (by decide) (by decide +kernel)) (
  zcons (zk_iload_n (pc := 4) (j := 1) rfl (by decide +kernel)) (
  zcons (zk_aload_n (pc := 5) (j := 0) rfl (by decide +kernel)) (
  zcons (zk_getr (pc := 6) (ci := 7) (j := 2) rfl zinX7 (by decide) zw_256 (by decide +kernel)) (
  zcons (zk_getN (pc := 9) (ci := 5) (j := 1) rfl zinX5 (by decide) zw_67 (by decide +kernel)) (
  zcons (zk_icge (pc := 12) (off := 7) (by decide) (by decide +kernel)) (
  zcons (zk_iconst (pc := 15) (z := 1) (by decide) (by decide +kernel)) (
  zcons (zk_goto (pc := 16) (off := 4) (by decide) (by decide +kernel)) (
  zcons (zk_iconst (pc := 19) (z := 0) (by decide) (by decide +kernel)) (
  zcons (zk_retz (pc := 20) rfl (by decide +kernel)) (znil)))))))))))
def tb_X7_areTwoCells : List (Nat × ZP) := [(0, zo_al 0 1), (1, zo_il 1 2), (2, zo_cvi 7 123 1 5), (5, zo_ifeq 25 8), (8, zo_al 0 9), (9, zo_il 2 10), (10, zo_cvi 7 123 1 13), (13, zo_ifeq 25 16), (16, zo_il 1 17), (17, zo_il 2 18), (18, zo_iceq 25 21), (21, zo_i 1 22), (22, zo_goto 26), (25, zo_i 0 26), (26, zo_retz)]
def cu_X7_areTwoCells : List (Nat × List Bool) := []
set_option maxRecDepth 100000 in
set_option maxHeartbeats 4000000 in
theorem ok_X7_areTwoCells : ∀ e ∈ tb_X7_areTwoCells, ZOK zmt cX7_areTwoCells RX7 3 e.1 e.2 :=
  zcons (zk_aload_n (pc := 0) (j := 0) rfl (by decide +kernel)) (
  zcons (zk_iload_n (pc := 1) (j := 1) rfl (by decide +kernel)) (
  zcons (zk_cvi (pc := 2) 123 rfl (ci := 7) rfl zw_505 zw_507 zsel_X7_isCell zds_X7_isCell (by decide) zw_508 zw_1 (by decide +kernel)) (
  zcons (zk_ifeq (pc := 5) (off := 20) (by decide) (by decide +kernel)) (
  zcons (zk_aload_n (pc := 8) (j := 0) rfl (by decide +kernel)) (
  zcons (zk_iload_n (pc := 9) (j := 2) rfl (by decide +kernel)) (
  zcons (zk_cvi (pc := 10) 123 rfl (ci := 7) rfl zw_505 zw_507 zsel_X7_isCell zds_X7_isCell (by decide) zw_508 zw_1 (by decide +kernel)) (
  zcons (zk_ifeq (pc := 13) (off := 12) (by decide) (by decide +kernel)) (
  zcons (zk_iload_n (pc := 16) (j := 1) rfl (by decide +kernel)) (
  zcons (zk_iload_n (pc := 17) (j := 2) rfl (by decide +kernel)) (
  zcons (zk_iceq (pc := 18) (off := 7) (by decide) (by decide +kernel)) (
  zcons (zk_iconst (pc := 21) (z := 1) (by decide) (by decide +kernel)) (
  zcons (zk_goto (pc := 22) (off := 4) (by decide) (by decide +kernel)) (
  zcons (zk_iconst (pc := 25) (z := 0) (by decide) (by decide +kernel)) (
  zcons (zk_retz (pc := 26) rfl (by decide +kernel)) (znil)))))))))))))))
def tb_X7_isCustomer : List (Nat × ZP) := [(0, zo_il 1 1), (1, zo_iflt 19 4), (4, zo_il 1 5), (5, zo_al 0 6), (6, zo_getr 7 2 9), (9, zo_get 5 2 12), (12, zo_icge 19 15), (15, zo_i 1 16), (16, zo_goto 20), (19, zo_i 0 20), (20, zo_retz)]
def cu_X7_isCustomer : List (Nat × List Bool) := []
set_option maxRecDepth 100000 in
set_option maxHeartbeats 4000000 in
theorem ok_X7_isCustomer : ∀ e ∈ tb_X7_isCustomer, ZOK zmt cX7_isCustomer RX7 3 e.1 e.2 :=
  zcons (zk_iload_n (pc := 0) (j := 1) rfl (by decide +kernel)) (
  zcons (zk_iflt (pc := 1) (off := 18) (by decide) (by decide +kernel)) (
  zcons (zk_iload_n (pc := 4) (j := 1) rfl (by decide +kernel)) (
  zcons (zk_aload_n (pc := 5) (j := 0) rfl (by decide +kernel)) (
  zcons (zk_getr (pc := 6) (ci := 7) (j := 2) rfl zinX7 (by decide) zw_256 (by decide +kernel)) (
  zcons (zk_getN (pc := 9) (ci := 5) (j := 2) rfl zinX5 (by decide) zw_70 (by decide +kernel)) (
  zcons (zk_icge (pc := 12) (off := 7) (by decide) (by decide +kernel)) (
  zcons (zk_iconst (pc := 15) (z := 1) (by decide) (by decide +kernel)) (
  zcons (zk_goto (pc := 16) (off := 4) (by decide) (by decide +kernel)) (
  zcons (zk_iconst (pc := 19) (z := 0) (by decide) (by decide +kernel)) (
  zcons (zk_retz (pc := 20) rfl (by decide +kernel)) (znil)))))))))))
def tb_X7_isRow : List (Nat × ZP) := [(0, zo_il 0 1), (1, zo_iflt 14 4), (4, zo_il 0 5), (5, zo_i 8 7), (7, zo_icge 14 10), (10, zo_i 1 11), (11, zo_goto 15), (14, zo_i 0 15), (15, zo_retz)]
def cu_X7_isRow : List (Nat × List Bool) := []
set_option maxRecDepth 100000 in
set_option maxHeartbeats 4000000 in
theorem ok_X7_isRow : ∀ e ∈ tb_X7_isRow, ZOK zmt cX7_isRow RX7 3 e.1 e.2 :=
  zcons (zk_iload_n (pc := 0) (j := 0) rfl (by decide +kernel)) (
  zcons (zk_iflt (pc := 1) (off := 13) (by decide) (by decide +kernel)) (
  zcons (zk_iload_n (pc := 4) (j := 0) rfl (by decide +kernel)) (
  zcons (zk_bipush (pc := 5) (z := 8) (by decide) (by decide +kernel)) (
  zcons (zk_icge (pc := 7) (off := 7) (by decide) (by decide +kernel)) (
  zcons (zk_iconst (pc := 10) (z := 1) (by decide) (by decide +kernel)) (
  zcons (zk_goto (pc := 11) (off := 4) (by decide) (by decide +kernel)) (
  zcons (zk_iconst (pc := 14) (z := 0) (by decide) (by decide +kernel)) (
  zcons (zk_retz (pc := 15) rfl (by decide +kernel)) (znil)))))))))
def tb_X7_isFigure : List (Nat × ZP) := [(0, zo_il 0 1), (1, zo_iflt 14 4), (4, zo_il 0 5), (5, zo_i 9 7), (7, zo_icgt 14 10), (10, zo_i 1 11), (11, zo_goto 15), (14, zo_i 0 15), (15, zo_retz)]
def cu_X7_isFigure : List (Nat × List Bool) := []
set_option maxRecDepth 100000 in
set_option maxHeartbeats 4000000 in
theorem ok_X7_isFigure : ∀ e ∈ tb_X7_isFigure, ZOK zmt cX7_isFigure RX7 3 e.1 e.2 :=
  zcons (zk_iload_n (pc := 0) (j := 0) rfl (by decide +kernel)) (
  zcons (zk_iflt (pc := 1) (off := 13) (by decide) (by decide +kernel)) (
  zcons (zk_iload_n (pc := 4) (j := 0) rfl (by decide +kernel)) (
  zcons (zk_bipush (pc := 5) (z := 9) (by decide) (by decide +kernel)) (
  zcons (zk_icgt (pc := 7) (off := 7) (by decide) (by decide +kernel)) (
  zcons (zk_iconst (pc := 10) (z := 1) (by decide) (by decide +kernel)) (
  zcons (zk_goto (pc := 11) (off := 4) (by decide) (by decide +kernel)) (
  zcons (zk_iconst (pc := 14) (z := 0) (by decide) (by decide +kernel)) (
  zcons (zk_retz (pc := 15) rfl (by decide +kernel)) (znil)))))))))
def tb_X7_isEither : List (Nat × ZP) := [(0, zo_il 0 1), (1, zo_ifeq 9 4), (4, zo_il 0 5), (5, zo_i 1 6), (6, zo_icne 13 9), (9, zo_i 1 10), (10, zo_goto 14), (13, zo_i 0 14), (14, zo_retz)]
def cu_X7_isEither : List (Nat × List Bool) := []
set_option maxRecDepth 100000 in
set_option maxHeartbeats 4000000 in
theorem ok_X7_isEither : ∀ e ∈ tb_X7_isEither, ZOK zmt cX7_isEither RX7 3 e.1 e.2 :=
  zcons (zk_iload_n (pc := 0) (j := 0) rfl (by decide +kernel)) (
  zcons (zk_ifeq (pc := 1) (off := 8) (by decide) (by decide +kernel)) (
  zcons (zk_iload_n (pc := 4) (j := 0) rfl (by decide +kernel)) (
  zcons (zk_iconst (pc := 5) (z := 1) (by decide) (by decide +kernel)) (
  zcons (zk_icne (pc := 6) (off := 7) (by decide) (by decide +kernel)) (
  zcons (zk_iconst (pc := 9) (z := 1) (by decide) (by decide +kernel)) (
  zcons (zk_goto (pc := 10) (off := 4) (by decide) (by decide +kernel)) (
  zcons (zk_iconst (pc := 13) (z := 0) (by decide) (by decide +kernel)) (
  zcons (zk_retz (pc := 14) rfl (by decide +kernel)) (znil)))))))))
def tb_X7_areRowsOf : List (Nat × ZP) := [(0, zo_il 0 1), (1, zo_csi 126 1 4), (4, zo_ifeq 29 7), (7, zo_il 1 8), (8, zo_csi 126 1 11), (11, zo_ifeq 29 14), (14, zo_il 2 15), (15, zo_i 1 16), (16, zo_iclt 29 19), (19, zo_il 2 20), (20, zo_i 10 22), (22, zo_icgt 29 25), (25, zo_i 1 26), (26, zo_goto 30), (29, zo_i 0 30), (30, zo_retz)]
def cu_X7_areRowsOf : List (Nat × List Bool) := []
set_option maxRecDepth 100000 in
set_option maxHeartbeats 4000000 in
theorem ok_X7_areRowsOf : ∀ e ∈ tb_X7_areRowsOf, ZOK zmt cX7_areRowsOf RX7 3 e.1 e.2 :=
  zcons (zk_iload_n (pc := 0) (j := 0) rfl (by decide +kernel)) (
  zcons (zk_csi (pc := 1) 126 rfl zw_289 zw_290 zds_X7_isRow (by decide) zw_291 zw_1 (by decide +kernel)) (
  zcons (zk_ifeq (pc := 4) (off := 25) (by decide) (by decide +kernel)) (
  zcons (zk_iload_n (pc := 7) (j := 1) rfl (by decide +kernel)) (
  zcons (zk_csi (pc := 8) 126 rfl zw_289 zw_290 zds_X7_isRow (by decide) zw_291 zw_1 (by decide +kernel)) (
  zcons (zk_ifeq (pc := 11) (off := 18) (by decide) (by decide +kernel)) (
  zcons (zk_iload_n (pc := 14) (j := 2) rfl (by decide +kernel)) (
  zcons (zk_iconst (pc := 15) (z := 1) (by decide) (by decide +kernel)) (
  zcons (zk_iclt (pc := 16) (off := 13) (by decide) (by decide +kernel)) (
  zcons (zk_iload_n (pc := 19) (j := 2) rfl (by decide +kernel)) (
  zcons (zk_bipush (pc := 20) (z := 10) (by decide) (by decide +kernel)) (
  zcons (zk_icgt (pc := 22) (off := 7) (by decide) (by decide +kernel)) (
  zcons (zk_iconst (pc := 25) (z := 1) (by decide) (by decide +kernel)) (
  zcons (zk_goto (pc := 26) (off := 4) (by decide) (by decide +kernel)) (
  zcons (zk_iconst (pc := 29) (z := 0) (by decide) (by decide +kernel)) (
  zcons (zk_retz (pc := 30) rfl (by decide +kernel)) (znil))))))))))))))))
def tb_X7_countRows : List (Nat × ZP) := [(0, zo_i 0 1), (1, zo_is 1 2), (2, zo_i 0 3), (3, zo_is 2 4), (4, zo_il 2 5), (5, zo_i 8 7), (7, zo_icge 36 10), (10, zo_il 1 11), (11, zo_al 0 12), (12, zo_getr 7 0 15), (15, zo_il 2 16), (16, zo_aald 3 17), (17, zo_get 4 1 20), (20, zo_ifeq 27 23), (23, zo_i 1 24), (24, zo_goto 28), (27, zo_i 0 28), (28, zo_bin (· + ·) 29), (29, zo_is 1 30), (30, zo_inc 2 1 33), (33, zo_goto 4), (36, zo_il 1 37), (37, zo_reti)]
def cu_X7_countRows : List (Nat × List Bool) := [(4, [true, true, true])]
set_option maxRecDepth 100000 in
set_option maxHeartbeats 4000000 in
theorem ok_X7_countRows : ∀ e ∈ tb_X7_countRows, ZOK zmt cX7_countRows RX7 1 e.1 e.2 :=
  zcons (zk_iconst (pc := 0) (z := 0) (by decide) (by decide +kernel)) (
  zcons (zk_istore_n (pc := 1) (j := 1) rfl (by decide +kernel)) (
  zcons (zk_iconst (pc := 2) (z := 0) (by decide) (by decide +kernel)) (
  zcons (zk_istore_n (pc := 3) (j := 2) rfl (by decide +kernel)) (
  zcons (zk_iload_n (pc := 4) (j := 2) rfl (by decide +kernel)) (
  zcons (zk_bipush (pc := 5) (z := 8) (by decide) (by decide +kernel)) (
  zcons (zk_icge (pc := 7) (off := 29) (by decide) (by decide +kernel)) (
  zcons (zk_iload_n (pc := 10) (j := 1) rfl (by decide +kernel)) (
  zcons (zk_aload_n (pc := 11) (j := 0) rfl (by decide +kernel)) (
  zcons (zk_getr (pc := 12) (ci := 7) (j := 0) rfl zinX7 (by decide) zw_254 (by decide +kernel)) (
  zcons (zk_iload_n (pc := 15) (j := 2) rfl (by decide +kernel)) (
  zcons (zk_aaload (pc := 16) (t := 3) (fun _ => rfl) (by decide +kernel)) (
  zcons (zk_getN (pc := 17) (ci := 4) (j := 1) rfl zinX4 (by decide) zw_240 (by decide +kernel)) (
  zcons (zk_ifeq (pc := 20) (off := 7) (by decide) (by decide +kernel)) (
  zcons (zk_iconst (pc := 23) (z := 1) (by decide) (by decide +kernel)) (
  zcons (zk_goto (pc := 24) (off := 4) (by decide) (by decide +kernel)) (
  zcons (zk_iconst (pc := 27) (z := 0) (by decide) (by decide +kernel)) (
  zcons (zk_iadd (pc := 28) (by decide +kernel)) (
  zcons (zk_istore_n (pc := 29) (j := 1) rfl (by decide +kernel)) (
  zcons (zk_iinc (pc := 30) (z := 1) (by decide) (by decide +kernel)) (
  zcons (zk_goto (pc := 33) (off := (-29)) (by decide) (by decide +kernel)) (
  zcons (zk_iload_n (pc := 36) (j := 1) rfl (by decide +kernel)) (
  zcons (zk_reti (pc := 37) rfl (by decide +kernel)) (znil)))))))))))))))))))))))
def tb_X7_putInPlace : List (Nat × ZP) := [(0, zo_al 0 1), (1, zo_getr 7 2 4), (4, zo_al 1 5), (5, zo_cvv 5 57 1 8), (8, zo_al 0 9), (9, zo_getr 7 6 12), (12, zo_al 0 13), (13, zo_getr 7 2 16), (16, zo_cvv 2 9 1 19), (19, zo_al 0 20), (20, zo_getr 7 5 23), (23, zo_i 0 24), (24, zo_put 0 4 27), (27, zo_retv)]
def cu_X7_putInPlace : List (Nat × List Bool) := []
set_option maxRecDepth 100000 in
set_option maxHeartbeats 4000000 in
theorem ok_X7_putInPlace : ∀ e ∈ tb_X7_putInPlace, ZOK zmt cX7_putInPlace RX7 0 e.1 e.2 :=
  zcons (zk_aload_n (pc := 0) (j := 0) rfl (by decide +kernel)) (
  zcons (zk_getr (pc := 1) (ci := 7) (j := 2) rfl zinX7 (by decide) zw_256 (by decide +kernel)) (
  zcons (zk_aload_n (pc := 4) (j := 1) rfl (by decide +kernel)) (
  zcons (zk_cvvN (pc := 5) 57 rfl (ci := 5) rfl zw_413 zw_415 zsel_X5_become zds_X5_become (by decide) zw_416 zw_3 (by decide +kernel)) (
  zcons (zk_aload_n (pc := 8) (j := 0) rfl (by decide +kernel)) (
  zcons (zk_getr (pc := 9) (ci := 7) (j := 6) rfl zinX7 (by decide) zw_260 (by decide +kernel)) (
  zcons (zk_aload_n (pc := 12) (j := 0) rfl (by decide +kernel)) (
  zcons (zk_getr (pc := 13) (ci := 7) (j := 2) rfl zinX7 (by decide) zw_256 (by decide +kernel)) (
  zcons (zk_cvvN (pc := 16) 9 rfl (ci := 2) rfl zw_418 zw_420 zsel_X2_learn zds_X2_learn (by decide) zw_421 zw_5 (by decide +kernel)) (
  zcons (zk_aload_n (pc := 19) (j := 0) rfl (by decide +kernel)) (
  zcons (zk_getr (pc := 20) (ci := 7) (j := 5) rfl zinX7 (by decide) zw_259 (by decide +kernel)) (
  zcons (zk_iconst (pc := 23) (z := 0) (by decide) (by decide +kernel)) (
  zcons (zk_putN (pc := 24) (ci := 0) (j := 4) rfl zinX0 (by decide) zw_143 tyX0 tyX0_ok nmX0 rfl (by decide +kernel) (by decide +kernel)) (
  zcons (zk_retv (pc := 27) rfl (by decide +kernel)) (znil))))))))))))))
def tb_X7_liveDay : List (Nat × ZP) := [(0, zo_al 1 1), (1, zo_get 5 2 4), (4, zo_ifeq 17 7), (7, zo_ll 2 8), (8, zo_l 3 11), (11, zo_ldv zlrem 12), (12, zo_l 0 13), (13, zo_lcmp 14), (14, zo_ifne 43 17), (17, zo_ll 2 18), (18, zo_al 1 19), (19, zo_get 5 1 22), (22, zo_csi 133 2 25), (25, zo_is 4 27), (27, zo_al 1 28), (28, zo_il 4 30), (30, zo_cvi 5 61 1 33), (33, zo_ifeq 42 36), (36, zo_al 1 37), (37, zo_il 4 39), (39, zo_cvv 5 60 1 42), (42, zo_retv), (43, zo_ll 2 44), (44, zo_al 1 45), (45, zo_get 5 2 48), (48, zo_csi 133 2 51), (51, zo_is 4 53), (53, zo_al 1 54), (54, zo_il 4 56), (56, zo_cvi 5 63 1 59), (59, zo_ifeq 69 62), (62, zo_al 1 63), (63, zo_il 4 65), (65, zo_cvv 5 59 1 68), (68, zo_retv), (69, zo_al 0 70), (70, zo_getr 7 6 73), (73, zo_al 1 74), (74, zo_il 4 76), (76, zo_cvi 2 21 2 79), (79, zo_is 5 81), (81, zo_il 5 83), (83, zo_ifeq 100 86), (86, zo_al 1 87), (87, zo_il 4 89), (89, zo_il 5 91), (91, zo_al 1 92), (92, zo_il 5 94), (94, zo_cvi 5 70 1 97), (97, zo_cvv 5 58 3 100), (100, zo_retv)]
def cu_X7_liveDay : List (Nat × List Bool) := []
set_option maxRecDepth 100000 in
set_option maxHeartbeats 4000000 in
theorem ok_X7_liveDay : ∀ e ∈ tb_X7_liveDay, ZOK zmt cX7_liveDay RX7 0 e.1 e.2 :=
  zcons (zk_aload_n (pc := 0) (j := 1) rfl (by decide +kernel)) (
  zcons (zk_getN (pc := 1) (ci := 5) (j := 2) rfl zinX5 (by decide) zw_70 (by decide +kernel)) (
  zcons (zk_ifeq (pc := 4) (off := 13) (by decide) (by decide +kernel)) (
  zcons (zk_lload_n (pc := 7) (j := 2) rfl (by decide +kernel)) (
  zcons (zk_ldc2 (pc := 8) zw_843 (by decide +kernel)) (
  zcons (zk_lrem (pc := 11) (by decide +kernel)) (
  zcons (zk_lconst (pc := 12) (z := 0) (by decide) (by decide +kernel)) (
  zcons (zk_lcmp (pc := 13) (by decide +kernel)) (
  zcons (zk_ifne (pc := 14) (off := 29) (by decide) (by decide +kernel)) (
  zcons (zk_lload_n (pc := 17) (j := 2) rfl (by decide +kernel)) (
  zcons (zk_aload_n (pc := 18) (j := 1) rfl (by decide +kernel)) (
  zcons (zk_getN (pc := 19) (ci := 5) (j := 1) rfl zinX5 (by decide) zw_67 (by decide +kernel)) (
  zcons (zk_csi (pc := 22) 133 rfl zw_844 zw_845 zds_X7_restBy (by decide) zw_846 zw_1 (by decide +kernel)) (
  zcons (zk_istore (pc := 25) (by decide +kernel)) (
  zcons (zk_aload_n (pc := 27) (j := 1) rfl (by decide +kernel)) (
  zcons (zk_iload (pc := 28) (by decide +kernel)) (
  zcons (zk_cviN (pc := 30) 61 rfl (ci := 5) rfl zw_509 zw_511 zsel_X5_isOn zds_X5_isOn (by decide) zw_512 zw_3 (by decide +kernel)) (
  zcons (zk_ifeq (pc := 33) (off := 9) (by decide) (by decide +kernel)) (
  zcons (zk_aload_n (pc := 36) (j := 1) rfl (by decide +kernel)) (
  zcons (zk_iload (pc := 37) (by decide +kernel)) (
  zcons (zk_cvvN (pc := 39) 60 rfl (ci := 5) rfl zw_513 zw_515 zsel_X5_lose zds_X5_lose (by decide) zw_516 zw_3 (by decide +kernel)) (
  zcons (zk_retv (pc := 42) rfl (by decide +kernel)) (
  zcons (zk_lload_n (pc := 43) (j := 2) rfl (by decide +kernel)) (
  zcons (zk_aload_n (pc := 44) (j := 1) rfl (by decide +kernel)) (
  zcons (zk_getN (pc := 45) (ci := 5) (j := 2) rfl zinX5 (by decide) zw_70 (by decide +kernel)) (
  zcons (zk_csi (pc := 48) 133 rfl zw_844 zw_845 zds_X7_restBy (by decide) zw_846 zw_1 (by decide +kernel)) (
  zcons (zk_istore (pc := 51) (by decide +kernel)) (
  zcons (zk_aload_n (pc := 53) (j := 1) rfl (by decide +kernel)) (
  zcons (zk_iload (pc := 54) (by decide +kernel)) (
  zcons (zk_cviN (pc := 56) 63 rfl (ci := 5) rfl zw_469 zw_471 zsel_X5_isServed zds_X5_isServed (by decide) zw_472 zw_3 (by decide +kernel)) (
  zcons (zk_ifeq (pc := 59) (off := 10) (by decide) (by decide +kernel)) (
  zcons (zk_aload_n (pc := 62) (j := 1) rfl (by decide +kernel)) (
  zcons (zk_iload (pc := 63) (by decide +kernel)) (
  zcons (zk_cvvN (pc := 65) 59 rfl (ci := 5) rfl zw_500 zw_447 zsel_X5_takeBack zds_X5_takeBack (by decide) zw_448 zw_3 (by decide +kernel)) (
  zcons (zk_retv (pc := 68) rfl (by decide +kernel)) (
  zcons (zk_aload_n (pc := 69) (j := 0) rfl (by decide +kernel)) (
  zcons (zk_getr (pc := 70) (ci := 7) (j := 6) rfl zinX7 (by decide) zw_260 (by decide +kernel)) (
  zcons (zk_aload_n (pc := 73) (j := 1) rfl (by decide +kernel)) (
  zcons (zk_iload (pc := 74) (by decide +kernel)) (
  zcons (zk_cviN (pc := 76) 21 rfl (ci := 2) rfl zw_644 zw_646 zsel_X2_bestFor zds_X2_bestFor (by decide) zw_647 zw_5 (by decide +kernel)) (
  zcons (zk_istore (pc := 79) (by decide +kernel)) (
  zcons (zk_iload (pc := 81) (by decide +kernel)) (
  zcons (zk_ifeq (pc := 83) (off := 17) (by decide) (by decide +kernel)) (
  zcons (zk_aload_n (pc := 86) (j := 1) rfl (by decide +kernel)) (
  zcons (zk_iload (pc := 87) (by decide +kernel)) (
  zcons (zk_iload (pc := 89) (by decide +kernel)) (
  zcons (zk_aload_n (pc := 91) (j := 1) rfl (by decide +kernel)) (
  zcons (zk_iload (pc := 92) (by decide +kernel)) (
  zcons (zk_cviN (pc := 94) 70 rfl (ci := 5) rfl zw_486 zw_488 zsel_X5_tearsOf zds_X5_tearsOf (by decide) zw_489 zw_3 (by decide +kernel)) (
  zcons (zk_cvvN (pc := 97) 58 rfl (ci := 5) rfl zw_490 zw_451 zsel_X5_sell zds_X5_sell (by decide) zw_452 zw_3 (by decide +kernel)) (
  zcons (zk_retv (pc := 100) rfl (by decide +kernel)) (znil)))))))))))))))))))))))))))))))))))))))))))))))))))
def tb_X7_restBy : List (Nat × ZP) := [(0, zo_il 2 1), (1, zo_ifle 12 4), (4, zo_ll 0 5), (5, zo_il 2 6), (6, zo_i2l 7), (7, zo_ldv zlrem 8), (8, zo_l2i 9), (9, zo_goto 13), (12, zo_i 0 13), (13, zo_reti)]
def cu_X7_restBy : List (Nat × List Bool) := []
set_option maxRecDepth 100000 in
set_option maxHeartbeats 4000000 in
theorem ok_X7_restBy : ∀ e ∈ tb_X7_restBy, ZOK zmt cX7_restBy RX7 1 e.1 e.2 :=
  zcons (zk_iload_n (pc := 0) (j := 2) rfl (by decide +kernel)) (
  zcons (zk_ifle (pc := 1) (off := 11) (by decide) (by decide +kernel)) (
  zcons (zk_lload_n (pc := 4) (j := 0) rfl (by decide +kernel)) (
  zcons (zk_iload_n (pc := 5) (j := 2) rfl (by decide +kernel)) (
  zcons (zk_i2l (pc := 6) (by decide +kernel)) (
  zcons (zk_lrem (pc := 7) (by decide +kernel)) (
  zcons (zk_l2i (pc := 8) (by decide +kernel)) (
  zcons (zk_goto (pc := 9) (off := 4) (by decide) (by decide +kernel)) (
  zcons (zk_iconst (pc := 12) (z := 0) (by decide) (by decide +kernel)) (
  zcons (zk_reti (pc := 13) rfl (by decide +kernel)) (znil))))))))))
def tb_X7_powerOf : List (Nat × ZP) := [(0, zo_l 1 1), (1, zo_ls 3 2), (2, zo_i 0 3), (3, zo_is 5 5), (5, zo_il 5 7), (7, zo_il 2 8), (8, zo_icge 21 11), (11, zo_ll 3 12), (12, zo_ll 0 13), (13, zo_lbin (· * ·) 14), (14, zo_ls 3 15), (15, zo_inc 5 1 18), (18, zo_goto 5), (21, zo_ll 3 22), (22, zo_retj)]
def cu_X7_powerOf : List (Nat × List Bool) := [(5, [true, false, true, true, false, true])]
set_option maxRecDepth 100000 in
set_option maxHeartbeats 4000000 in
theorem ok_X7_powerOf : ∀ e ∈ tb_X7_powerOf, ZOK zmt cX7_powerOf RX7 2 e.1 e.2 :=
  zcons (zk_lconst (pc := 0) (z := 1) (by decide) (by decide +kernel)) (
  zcons (zk_lstore_n (pc := 1) (j := 3) rfl (by decide +kernel)) (
  zcons (zk_iconst (pc := 2) (z := 0) (by decide) (by decide +kernel)) (
  zcons (zk_istore (pc := 3) (by decide +kernel)) (
  zcons (zk_iload (pc := 5) (by decide +kernel)) (
  zcons (zk_iload_n (pc := 7) (j := 2) rfl (by decide +kernel)) (
  zcons (zk_icge (pc := 8) (off := 13) (by decide) (by decide +kernel)) (
  zcons (zk_lload_n (pc := 11) (j := 3) rfl (by decide +kernel)) (
  zcons (zk_lload_n (pc := 12) (j := 0) rfl (by decide +kernel)) (
  zcons (zk_lmul (pc := 13) (by decide +kernel)) (
  zcons (zk_lstore_n (pc := 14) (j := 3) rfl (by decide +kernel)) (
  zcons (zk_iinc (pc := 15) (z := 1) (by decide) (by decide +kernel)) (
  zcons (zk_goto (pc := 18) (off := (-13)) (by decide) (by decide +kernel)) (
  zcons (zk_lload_n (pc := 21) (j := 3) rfl (by decide +kernel)) (
  zcons (zk_retj (pc := 22) rfl (by decide +kernel)) (znil)))))))))))))))
def tb_X7_commonDivisor : List (Nat × ZP) := [(0, zo_ll 2 1), (1, zo_ls 4 3), (3, zo_ll 0 4), (4, zo_ls 6 6), (6, zo_i 0 7), (7, zo_is 8 9), (9, zo_il 8 11), (11, zo_i 100 13), (13, zo_icge 44 16), (16, zo_ll 4 18), (18, zo_l 0 19), (19, zo_lcmp 20), (20, zo_ifeq 44 23), (23, zo_ll 6 25), (25, zo_ll 4 27), (27, zo_ldv zlrem 28), (28, zo_ls 9 30), (30, zo_ll 4 32), (32, zo_ls 6 34), (34, zo_ll 9 36), (36, zo_ls 4 38), (38, zo_inc 8 1 41), (41, zo_goto 9), (44, zo_ll 6 46), (46, zo_retj)]
def cu_X7_commonDivisor : List (Nat × List Bool) := [(9, [false, false, false, false, true, false, true, false, true, false, false])]
set_option maxRecDepth 100000 in
set_option maxHeartbeats 4000000 in
theorem ok_X7_commonDivisor : ∀ e ∈ tb_X7_commonDivisor, ZOK zmt cX7_commonDivisor RX7 2 e.1 e.2 :=
  zcons (zk_lload_n (pc := 0) (j := 2) rfl (by decide +kernel)) (
  zcons (zk_lstore (pc := 1) (by decide +kernel)) (
  zcons (zk_lload_n (pc := 3) (j := 0) rfl (by decide +kernel)) (
  zcons (zk_lstore (pc := 4) (by decide +kernel)) (
  zcons (zk_iconst (pc := 6) (z := 0) (by decide) (by decide +kernel)) (
  zcons (zk_istore (pc := 7) (by decide +kernel)) (
  zcons (zk_iload (pc := 9) (by decide +kernel)) (
  zcons (zk_bipush (pc := 11) (z := 100) (by decide) (by decide +kernel)) (
  zcons (zk_icge (pc := 13) (off := 31) (by decide) (by decide +kernel)) (
  zcons (zk_lload (pc := 16) (by decide +kernel)) (
  zcons (zk_lconst (pc := 18) (z := 0) (by decide) (by decide +kernel)) (
  zcons (zk_lcmp (pc := 19) (by decide +kernel)) (
  zcons (zk_ifeq (pc := 20) (off := 24) (by decide) (by decide +kernel)) (
  zcons (zk_lload (pc := 23) (by decide +kernel)) (
  zcons (zk_lload (pc := 25) (by decide +kernel)) (
  zcons (zk_lrem (pc := 27) (by decide +kernel)) (
  zcons (zk_lstore (pc := 28) (by decide +kernel)) (
  zcons (zk_lload (pc := 30) (by decide +kernel)) (
  zcons (zk_lstore (pc := 32) (by decide +kernel)) (
  zcons (zk_lload (pc := 34) (by decide +kernel)) (
  zcons (zk_lstore (pc := 36) (by decide +kernel)) (
  zcons (zk_iinc (pc := 38) (z := 1) (by decide) (by decide +kernel)) (
  zcons (zk_goto (pc := 41) (off := (-32)) (by decide) (by decide +kernel)) (
  zcons (zk_lload (pc := 44) (by decide +kernel)) (
  zcons (zk_retj (pc := 46) rfl (by decide +kernel)) (znil)))))))))))))))))))))))))
def tb_X7_takeTold : List (Nat × ZP) := [(0, zo_al 0 1), (1, zo_getr 7 0 4), (4, zo_il 1 5), (5, zo_aald 3 6), (6, zo_as 6 8), (8, zo_al 6 10), (10, zo_get 4 1 13), (13, zo_ifne 18 16), (16, zo_i 1 17), (17, zo_reti), (18, zo_al 6 20), (20, zo_il 2 21), (21, zo_il 5 23), (23, zo_cvi 4 51 2 26), (26, zo_ifne 31 29), (29, zo_i 2 30), (30, zo_reti), (31, zo_al 0 32), (32, zo_getr 7 8 35), (35, zo_al 6 37), (37, zo_il 2 38), (38, zo_il 5 40), (40, zo_al 0 41), (41, zo_getr 7 2 44), (44, zo_get 5 1 47), (47, zo_cvi 6 77 4 50), (50, zo_ifne 55 53), (53, zo_i 3 54), (54, zo_reti), (55, zo_al 0 56), (56, zo_getr 7 0 59), (59, zo_il 3 60), (60, zo_aald 3 61), (61, zo_as 7 63), (63, zo_al 7 65), (65, zo_get 4 1 68), (68, zo_ifne 73 71), (71, zo_i 1 72), (72, zo_reti), (73, zo_al 7 75), (75, zo_il 4 77), (77, zo_il 5 79), (79, zo_cvi 4 51 2 82), (82, zo_ifne 87 85), (85, zo_i 2 86), (86, zo_reti), (87, zo_al 0 88), (88, zo_getr 7 8 91), (91, zo_al 7 93), (93, zo_il 4 95), (95, zo_cvv 6 78 2 98), (98, zo_i 0 99), (99, zo_reti)]
def cu_X7_takeTold : List (Nat × List Bool) := []
set_option maxRecDepth 100000 in
set_option maxHeartbeats 4000000 in
theorem ok_X7_takeTold : ∀ e ∈ tb_X7_takeTold, ZOK zmt cX7_takeTold RX7 1 e.1 e.2 :=
  zcons (zk_aload_n (pc := 0) (j := 0) rfl (by decide +kernel)) (
  zcons (zk_getr (pc := 1) (ci := 7) (j := 0) rfl zinX7 (by decide) zw_254 (by decide +kernel)) (
  zcons (zk_iload_n (pc := 4) (j := 1) rfl (by decide +kernel)) (
  zcons (zk_aaload (pc := 5) (t := 3) (fun _ => rfl) (by decide +kernel)) (
  zcons (zk_astore (pc := 6) (by decide +kernel)) (
  zcons (zk_aload (pc := 8) (by decide +kernel)) (
  zcons (zk_getN (pc := 10) (ci := 4) (j := 1) rfl zinX4 (by decide) zw_240 (by decide +kernel)) (
  zcons (zk_ifne (pc := 13) (off := 5) (by decide) (by decide +kernel)) (
  zcons (zk_iconst (pc := 16) (z := 1) (by decide) (by decide +kernel)) (
  zcons (zk_reti (pc := 17) rfl (by decide +kernel)) (
  zcons (zk_aload (pc := 18) (by decide +kernel)) (
  zcons (zk_iload_n (pc := 20) (j := 2) rfl (by decide +kernel)) (
  zcons (zk_iload (pc := 21) (by decide +kernel)) (
  zcons (zk_cviN (pc := 23) 51 rfl (ci := 4) rfl zw_313 zw_315 zsel_X4_reaches zds_X4_reaches (by decide) zw_316 zw_8 (by decide +kernel)) (
  zcons (zk_ifne (pc := 26) (off := 5) (by decide) (by decide +kernel)) (
  zcons (zk_iconst (pc := 29) (z := 2) (by decide) (by decide +kernel)) (
  zcons (zk_reti (pc := 30) rfl (by decide +kernel)) (
  zcons (zk_aload_n (pc := 31) (j := 0) rfl (by decide +kernel)) (
  zcons (zk_getr (pc := 32) (ci := 7) (j := 8) rfl zinX7 (by decide) zw_262 (by decide +kernel)) (
  zcons (zk_aload (pc := 35) (by decide +kernel)) (
  zcons (zk_iload_n (pc := 37) (j := 2) rfl (by decide +kernel)) (
  zcons (zk_iload (pc := 38) (by decide +kernel)) (
  zcons (zk_aload_n (pc := 40) (j := 0) rfl (by decide +kernel)) (
  zcons (zk_getr (pc := 41) (ci := 7) (j := 2) rfl zinX7 (by decide) zw_256 (by decide +kernel)) (
  zcons (zk_getN (pc := 44) (ci := 5) (j := 1) rfl zinX5 (by decide) zw_67 (by decide +kernel)) (
  zcons (zk_cviN (pc := 47) 77 rfl (ci := 6) rfl zw_765 zw_767 zsel_X6_takeCells zds_X6_takeCells (by decide) zw_768 zw_7 (by decide +kernel)) (
  zcons (zk_ifne (pc := 50) (off := 5) (by decide) (by decide +kernel)) (
  zcons (zk_iconst (pc := 53) (z := 3) (by decide) (by decide +kernel)) (
  zcons (zk_reti (pc := 54) rfl (by decide +kernel)) (
  zcons (zk_aload_n (pc := 55) (j := 0) rfl (by decide +kernel)) (
  zcons (zk_getr (pc := 56) (ci := 7) (j := 0) rfl zinX7 (by decide) zw_254 (by decide +kernel)) (
  zcons (zk_iload_n (pc := 59) (j := 3) rfl (by decide +kernel)) (
  zcons (zk_aaload (pc := 60) (t := 3) (fun _ => rfl) (by decide +kernel)) (
  zcons (zk_astore (pc := 61) (by decide +kernel)) (
  zcons (zk_aload (pc := 63) (by decide +kernel)) (
  zcons (zk_getN (pc := 65) (ci := 4) (j := 1) rfl zinX4 (by decide) zw_240 (by decide +kernel)) (
  zcons (zk_ifne (pc := 68) (off := 5) (by decide) (by decide +kernel)) (
  zcons (zk_iconst (pc := 71) (z := 1) (by decide) (by decide +kernel)) (
  zcons (zk_reti (pc := 72) rfl (by decide +kernel)) (
  zcons (zk_aload (pc := 73) (by decide +kernel)) (
  zcons (zk_iload (pc := 75) (by decide +kernel)) (
  zcons (zk_iload (pc := 77) (by decide +kernel)) (
  zcons (zk_cviN (pc := 79) 51 rfl (ci := 4) rfl zw_313 zw_315 zsel_X4_reaches zds_X4_reaches (by decide) zw_316 zw_8 (by decide +kernel)) (
  zcons (zk_ifne (pc := 82) (off := 5) (by decide) (by decide +kernel)) (
  zcons (zk_iconst (pc := 85) (z := 2) (by decide) (by decide +kernel)) (
  zcons (zk_reti (pc := 86) rfl (by decide +kernel)) (
  zcons (zk_aload_n (pc := 87) (j := 0) rfl (by decide +kernel)) (
  zcons (zk_getr (pc := 88) (ci := 7) (j := 8) rfl zinX7 (by decide) zw_262 (by decide +kernel)) (
  zcons (zk_aload (pc := 91) (by decide +kernel)) (
  zcons (zk_iload (pc := 93) (by decide +kernel)) (
  zcons (zk_cvvN (pc := 95) 78 rfl (ci := 6) rfl zw_769 zw_771 zsel_X6_takePays zds_X6_takePays (by decide) zw_772 zw_7 (by decide +kernel)) (
  zcons (zk_iconst (pc := 98) (z := 0) (by decide) (by decide +kernel)) (
  zcons (zk_reti (pc := 99) rfl (by decide +kernel)) (znil)))))))))))))))))))))))))))))))))))))))))))))))))))))
def tb_X7_kindsThatFit : List (Nat × ZP) := [(0, zo_al 0 1), (1, zo_getr 7 3 4), (4, zo_al 0 5), (5, zo_getr 7 2 8), (8, zo_cvv 5 57 1 11), (11, zo_i 0 12), (12, zo_is 2 13), (13, zo_i 1 14), (14, zo_is 3 15), (15, zo_il 3 16), (16, zo_i 6 18), (18, zo_icge 69 21), (21, zo_al 0 22), (22, zo_getr 7 3 25), (25, zo_il 1 26), (26, zo_il 3 27), (27, zo_al 0 28), (28, zo_getr 7 2 31), (31, zo_getr 5 10 34), (34, zo_il 1 35), (35, zo_iald 36), (36, zo_cvv 5 55 3 39), (39, zo_il 2 40), (40, zo_al 0 41), (41, zo_getr 7 8 44), (44, zo_al 0 45), (45, zo_getr 7 3 48), (48, zo_cvi 6 79 1 51), (51, zo_ifeq 60 54), (54, zo_i 1 55), (55, zo_il 3 56), (56, zo_bin zshl 57), (57, zo_goto 61), (60, zo_i 0 61), (61, zo_bin (· ||| ·) 62), (62, zo_is 2 63), (63, zo_inc 3 1 66), (66, zo_goto 15), (69, zo_il 2 70), (70, zo_reti)]
def cu_X7_kindsThatFit : List (Nat × List Bool) := [(15, [true, true, true, true])]
set_option maxRecDepth 100000 in
set_option maxHeartbeats 4000000 in
theorem ok_X7_kindsThatFit : ∀ e ∈ tb_X7_kindsThatFit, ZOK zmt cX7_kindsThatFit RX7 1 e.1 e.2 :=
  zcons (zk_aload_n (pc := 0) (j := 0) rfl (by decide +kernel)) (
  zcons (zk_getr (pc := 1) (ci := 7) (j := 3) rfl zinX7 (by decide) zw_257 (by decide +kernel)) (
  zcons (zk_aload_n (pc := 4) (j := 0) rfl (by decide +kernel)) (
  zcons (zk_getr (pc := 5) (ci := 7) (j := 2) rfl zinX7 (by decide) zw_256 (by decide +kernel)) (
  zcons (zk_cvvN (pc := 8) 57 rfl (ci := 5) rfl zw_413 zw_415 zsel_X5_become zds_X5_become (by decide) zw_416 zw_3 (by decide +kernel)) (
  zcons (zk_iconst (pc := 11) (z := 0) (by decide) (by decide +kernel)) (
  zcons (zk_istore_n (pc := 12) (j := 2) rfl (by decide +kernel)) (
  zcons (zk_iconst (pc := 13) (z := 1) (by decide) (by decide +kernel)) (
  zcons (zk_istore_n (pc := 14) (j := 3) rfl (by decide +kernel)) (
  zcons (zk_iload_n (pc := 15) (j := 3) rfl (by decide +kernel)) (
  zcons (zk_bipush (pc := 16) (z := 6) (by decide) (by decide +kernel)) (
  zcons (zk_icge (pc := 18) (off := 51) (by decide) (by decide +kernel)) (
  zcons (zk_aload_n (pc := 21) (j := 0) rfl (by decide +kernel)) (
  zcons (zk_getr (pc := 22) (ci := 7) (j := 3) rfl zinX7 (by decide) zw_257 (by decide +kernel)) (
  zcons (zk_iload_n (pc := 25) (j := 1) rfl (by decide +kernel)) (
  zcons (zk_iload_n (pc := 26) (j := 3) rfl (by decide +kernel)) (
  zcons (zk_aload_n (pc := 27) (j := 0) rfl (by decide +kernel)) (
  zcons (zk_getr (pc := 28) (ci := 7) (j := 2) rfl zinX7 (by decide) zw_256 (by decide +kernel)) (
  zcons (zk_getrN (pc := 31) (ci := 5) (j := 10) rfl zinX5 (by decide) zw_95 (by decide +kernel)) (
  zcons (zk_iload_n (pc := 34) (j := 1) rfl (by decide +kernel)) (
  zcons (zk_iaload (pc := 35) (by decide +kernel)) (
  zcons (zk_cvvN (pc := 36) 55 rfl (ci := 5) rfl zw_777 zw_398 zsel_X5_put zds_X5_put (by decide) zw_399 zw_3 (by decide +kernel)) (
  zcons (zk_iload_n (pc := 39) (j := 2) rfl (by decide +kernel)) (
  zcons (zk_aload_n (pc := 40) (j := 0) rfl (by decide +kernel)) (
  zcons (zk_getr (pc := 41) (ci := 7) (j := 8) rfl zinX7 (by decide) zw_262 (by decide +kernel)) (
  zcons (zk_aload_n (pc := 44) (j := 0) rfl (by decide +kernel)) (
  zcons (zk_getr (pc := 45) (ci := 7) (j := 3) rfl zinX7 (by decide) zw_257 (by decide +kernel)) (
  zcons (zk_cviN (pc := 48) 79 rfl (ci := 6) rfl zw_778 zw_780 zsel_X6_isSo zds_X6_isSo (by decide) zw_781 zw_7 (by decide +kernel)) (
  zcons (zk_ifeq (pc := 51) (off := 9) (by decide) (by decide +kernel)) (
  zcons (zk_iconst (pc := 54) (z := 1) (by decide) (by decide +kernel)) (
  zcons (zk_iload_n (pc := 55) (j := 3) rfl (by decide +kernel)) (
  zcons (zk_ishl (pc := 56) (by decide +kernel)) (
  zcons (zk_goto (pc := 57) (off := 4) (by decide) (by decide +kernel)) (
  zcons (zk_iconst (pc := 60) (z := 0) (by decide) (by decide +kernel)) (
  zcons (zk_ior (pc := 61) (by decide +kernel)) (
  zcons (zk_istore_n (pc := 62) (j := 2) rfl (by decide +kernel)) (
  zcons (zk_iinc (pc := 63) (z := 1) (by decide) (by decide +kernel)) (
  zcons (zk_goto (pc := 66) (off := (-51)) (by decide) (by decide +kernel)) (
  zcons (zk_iload_n (pc := 69) (j := 2) rfl (by decide +kernel)) (
  zcons (zk_reti (pc := 70) rfl (by decide +kernel)) (znil))))))))))))))))))))))))))))))))))))))))
def tb_X7_valuesThatFit : List (Nat × ZP) := [(0, zo_al 0 1), (1, zo_getr 7 3 4), (4, zo_al 0 5), (5, zo_getr 7 2 8), (8, zo_cvv 5 57 1 11), (11, zo_i 0 12), (12, zo_is 2 13), (13, zo_i 0 14), (14, zo_is 3 15), (15, zo_il 3 16), (16, zo_i 9 18), (18, zo_icgt 61 21), (21, zo_al 0 22), (22, zo_getr 7 3 25), (25, zo_getr 5 10 28), (28, zo_il 1 29), (29, zo_il 3 30), (30, zo_iast 31), (31, zo_il 2 32), (32, zo_al 0 33), (33, zo_getr 7 8 36), (36, zo_al 0 37), (37, zo_getr 7 3 40), (40, zo_cvi 6 79 1 43), (43, zo_ifeq 52 46), (46, zo_i 1 47), (47, zo_il 3 48), (48, zo_bin zshl 49), (49, zo_goto 53), (52, zo_i 0 53), (53, zo_bin (· ||| ·) 54), (54, zo_is 2 55), (55, zo_inc 3 1 58), (58, zo_goto 15), (61, zo_il 2 62), (62, zo_reti)]
def cu_X7_valuesThatFit : List (Nat × List Bool) := [(15, [true, true, true, true])]
set_option maxRecDepth 100000 in
set_option maxHeartbeats 4000000 in
theorem ok_X7_valuesThatFit : ∀ e ∈ tb_X7_valuesThatFit, ZOK zmt cX7_valuesThatFit RX7 1 e.1 e.2 :=
  zcons (zk_aload_n (pc := 0) (j := 0) rfl (by decide +kernel)) (
  zcons (zk_getr (pc := 1) (ci := 7) (j := 3) rfl zinX7 (by decide) zw_257 (by decide +kernel)) (
  zcons (zk_aload_n (pc := 4) (j := 0) rfl (by decide +kernel)) (
  zcons (zk_getr (pc := 5) (ci := 7) (j := 2) rfl zinX7 (by decide) zw_256 (by decide +kernel)) (
  zcons (zk_cvvN (pc := 8) 57 rfl (ci := 5) rfl zw_413 zw_415 zsel_X5_become zds_X5_become (by decide) zw_416 zw_3 (by decide +kernel)) (
  zcons (zk_iconst (pc := 11) (z := 0) (by decide) (by decide +kernel)) (
  zcons (zk_istore_n (pc := 12) (j := 2) rfl (by decide +kernel)) (
  zcons (zk_iconst (pc := 13) (z := 0) (by decide) (by decide +kernel)) (
  zcons (zk_istore_n (pc := 14) (j := 3) rfl (by decide +kernel)) (
  zcons (zk_iload_n (pc := 15) (j := 3) rfl (by decide +kernel)) (
  zcons (zk_bipush (pc := 16) (z := 9) (by decide) (by decide +kernel)) (
  zcons (zk_icgt (pc := 18) (off := 43) (by decide) (by decide +kernel)) (
  zcons (zk_aload_n (pc := 21) (j := 0) rfl (by decide +kernel)) (
  zcons (zk_getr (pc := 22) (ci := 7) (j := 3) rfl zinX7 (by decide) zw_257 (by decide +kernel)) (
  zcons (zk_getrN (pc := 25) (ci := 5) (j := 10) rfl zinX5 (by decide) zw_95 (by decide +kernel)) (
  zcons (zk_iload_n (pc := 28) (j := 1) rfl (by decide +kernel)) (
  zcons (zk_iload_n (pc := 29) (j := 3) rfl (by decide +kernel)) (
  zcons (zk_iastore (pc := 30) (by decide +kernel)) (
  zcons (zk_iload_n (pc := 31) (j := 2) rfl (by decide +kernel)) (
  zcons (zk_aload_n (pc := 32) (j := 0) rfl (by decide +kernel)) (
  zcons (zk_getr (pc := 33) (ci := 7) (j := 8) rfl zinX7 (by decide) zw_262 (by decide +kernel)) (
  zcons (zk_aload_n (pc := 36) (j := 0) rfl (by decide +kernel)) (
  zcons (zk_getr (pc := 37) (ci := 7) (j := 3) rfl zinX7 (by decide) zw_257 (by decide +kernel)) (
  zcons (zk_cviN (pc := 40) 79 rfl (ci := 6) rfl zw_778 zw_780 zsel_X6_isSo zds_X6_isSo (by decide) zw_781 zw_7 (by decide +kernel)) (
  zcons (zk_ifeq (pc := 43) (off := 9) (by decide) (by decide +kernel)) (
  zcons (zk_iconst (pc := 46) (z := 1) (by decide) (by decide +kernel)) (
  zcons (zk_iload_n (pc := 47) (j := 3) rfl (by decide +kernel)) (
  zcons (zk_ishl (pc := 48) (by decide +kernel)) (
  zcons (zk_goto (pc := 49) (off := 4) (by decide) (by decide +kernel)) (
  zcons (zk_iconst (pc := 52) (z := 0) (by decide) (by decide +kernel)) (
  zcons (zk_ior (pc := 53) (by decide +kernel)) (
  zcons (zk_istore_n (pc := 54) (j := 2) rfl (by decide +kernel)) (
  zcons (zk_iinc (pc := 55) (z := 1) (by decide) (by decide +kernel)) (
  zcons (zk_goto (pc := 58) (off := (-43)) (by decide) (by decide +kernel)) (
  zcons (zk_iload_n (pc := 61) (j := 2) rfl (by decide +kernel)) (
  zcons (zk_reti (pc := 62) rfl (by decide +kernel)) (znil))))))))))))))))))))))))))))))))))))
def tb_X7_oversThatFit : List (Nat × ZP) := [(0, zo_al 0 1), (1, zo_getr 7 3 4), (4, zo_al 0 5), (5, zo_getr 7 2 8), (8, zo_cvv 5 57 1 11), (11, zo_i 0 12), (12, zo_is 1 13), (13, zo_i 0 14), (14, zo_is 2 15), (15, zo_il 2 16), (16, zo_i 9 18), (18, zo_icgt 59 21), (21, zo_al 0 22), (22, zo_getr 7 3 25), (25, zo_il 2 26), (26, zo_put 5 3 29), (29, zo_il 1 30), (30, zo_al 0 31), (31, zo_getr 7 8 34), (34, zo_al 0 35), (35, zo_getr 7 3 38), (38, zo_cvi 6 79 1 41), (41, zo_ifeq 50 44), (44, zo_i 1 45), (45, zo_il 2 46), (46, zo_bin zshl 47), (47, zo_goto 51), (50, zo_i 0 51), (51, zo_bin (· ||| ·) 52), (52, zo_is 1 53), (53, zo_inc 2 1 56), (56, zo_goto 15), (59, zo_il 1 60), (60, zo_reti)]
def cu_X7_oversThatFit : List (Nat × List Bool) := [(15, [true, true, true])]
set_option maxRecDepth 100000 in
set_option maxHeartbeats 4000000 in
theorem ok_X7_oversThatFit : ∀ e ∈ tb_X7_oversThatFit, ZOK zmt cX7_oversThatFit RX7 1 e.1 e.2 :=
  zcons (zk_aload_n (pc := 0) (j := 0) rfl (by decide +kernel)) (
  zcons (zk_getr (pc := 1) (ci := 7) (j := 3) rfl zinX7 (by decide) zw_257 (by decide +kernel)) (
  zcons (zk_aload_n (pc := 4) (j := 0) rfl (by decide +kernel)) (
  zcons (zk_getr (pc := 5) (ci := 7) (j := 2) rfl zinX7 (by decide) zw_256 (by decide +kernel)) (
  zcons (zk_cvvN (pc := 8) 57 rfl (ci := 5) rfl zw_413 zw_415 zsel_X5_become zds_X5_become (by decide) zw_416 zw_3 (by decide +kernel)) (
  zcons (zk_iconst (pc := 11) (z := 0) (by decide) (by decide +kernel)) (
  zcons (zk_istore_n (pc := 12) (j := 1) rfl (by decide +kernel)) (
  zcons (zk_iconst (pc := 13) (z := 0) (by decide) (by decide +kernel)) (
  zcons (zk_istore_n (pc := 14) (j := 2) rfl (by decide +kernel)) (
  zcons (zk_iload_n (pc := 15) (j := 2) rfl (by decide +kernel)) (
  zcons (zk_bipush (pc := 16) (z := 9) (by decide) (by decide +kernel)) (
  zcons (zk_icgt (pc := 18) (off := 41) (by decide) (by decide +kernel)) (
  zcons (zk_aload_n (pc := 21) (j := 0) rfl (by decide +kernel)) (
  zcons (zk_getr (pc := 22) (ci := 7) (j := 3) rfl zinX7 (by decide) zw_257 (by decide +kernel)) (
  zcons (zk_iload_n (pc := 25) (j := 2) rfl (by decide +kernel)) (
  zcons (zk_putN (pc := 26) (ci := 5) (j := 3) rfl zinX5 (by decide) zw_74 tyX5 tyX5_ok nmX5 rfl (by decide +kernel) (by decide +kernel)) (
  zcons (zk_iload_n (pc := 29) (j := 1) rfl (by decide +kernel)) (
  zcons (zk_aload_n (pc := 30) (j := 0) rfl (by decide +kernel)) (
  zcons (zk_getr (pc := 31) (ci := 7) (j := 8) rfl zinX7 (by decide) zw_262 (by decide +kernel)) (
  zcons (zk_aload_n (pc := 34) (j := 0) rfl (by decide +kernel)) (
  zcons (zk_getr (pc := 35) (ci := 7) (j := 3) rfl zinX7 (by decide) zw_257 (by decide +kernel)) (
  zcons (zk_cviN (pc := 38) 79 rfl (ci := 6) rfl zw_778 zw_780 zsel_X6_isSo zds_X6_isSo (by decide) zw_781 zw_7 (by decide +kernel)) (
  zcons (zk_ifeq (pc := 41) (off := 9) (by decide) (by decide +kernel)) (
  zcons (zk_iconst (pc := 44) (z := 1) (by decide) (by decide +kernel)) (
  zcons (zk_iload_n (pc := 45) (j := 2) rfl (by decide +kernel)) (
  zcons (zk_ishl (pc := 46) (by decide +kernel)) (
  zcons (zk_goto (pc := 47) (off := 4) (by decide) (by decide +kernel)) (
  zcons (zk_iconst (pc := 50) (z := 0) (by decide) (by decide +kernel)) (
  zcons (zk_ior (pc := 51) (by decide +kernel)) (
  zcons (zk_istore_n (pc := 52) (j := 1) rfl (by decide +kernel)) (
  zcons (zk_iinc (pc := 53) (z := 1) (by decide) (by decide +kernel)) (
  zcons (zk_goto (pc := 56) (off := (-41)) (by decide) (by decide +kernel)) (
  zcons (zk_iload_n (pc := 59) (j := 1) rfl (by decide +kernel)) (
  zcons (zk_reti (pc := 60) rfl (by decide +kernel)) (znil))))))))))))))))))))))))))))))))))
def tb_X7_countSwaps : List (Nat × ZP) := [(0, zo_i 0 1), (1, zo_is 1 2), (2, zo_i 0 3), (3, zo_is 2 4), (4, zo_il 2 5), (5, zo_al 0 6), (6, zo_getr 7 2 9), (9, zo_get 5 1 12), (12, zo_icge 59 15), (15, zo_il 2 16), (16, zo_i 1 17), (17, zo_bin (· + ·) 18), (18, zo_is 3 19), (19, zo_il 3 20), (20, zo_al 0 21), (21, zo_getr 7 2 24), (24, zo_get 5 1 27), (27, zo_icge 53 30), (30, zo_il 1 31), (31, zo_al 0 32), (32, zo_il 2 33), (33, zo_il 3 34), (34, zo_cvi 7 142 2 37), (37, zo_ifeq 44 40), (40, zo_i 1 41), (41, zo_goto 45), (44, zo_i 0 45), (45, zo_bin (· + ·) 46), (46, zo_is 1 47), (47, zo_inc 3 1 50), (50, zo_goto 19), (53, zo_inc 2 1 56), (56, zo_goto 4), (59, zo_il 1 60), (60, zo_reti)]
def cu_X7_countSwaps : List (Nat × List Bool) := [(4, [true, true, true, false]), (19, [true, true, true, true])]
set_option maxRecDepth 100000 in
set_option maxHeartbeats 4000000 in
theorem ok_X7_countSwaps : ∀ e ∈ tb_X7_countSwaps, ZOK zmt cX7_countSwaps RX7 1 e.1 e.2 :=
  zcons (zk_iconst (pc := 0) (z := 0) (by decide) (by decide +kernel)) (
  zcons (zk_istore_n (pc := 1) (j := 1) rfl (by decide +kernel)) (
  zcons (zk_iconst (pc := 2) (z := 0) (by decide) (by decide +kernel)) (
  zcons (zk_istore_n (pc := 3) (j := 2) rfl (by decide +kernel)) (
  zcons (zk_iload_n (pc := 4) (j := 2) rfl (by decide +kernel)) (
  zcons (zk_aload_n (pc := 5) (j := 0) rfl (by decide +kernel)) (
  zcons (zk_getr (pc := 6) (ci := 7) (j := 2) rfl zinX7 (by decide) zw_256 (by decide +kernel)) (
  zcons (zk_getN (pc := 9) (ci := 5) (j := 1) rfl zinX5 (by decide) zw_67 (by decide +kernel)) (
  zcons (zk_icge (pc := 12) (off := 47) (by decide) (by decide +kernel)) (
  zcons (zk_iload_n (pc := 15) (j := 2) rfl (by decide +kernel)) (
  zcons (zk_iconst (pc := 16) (z := 1) (by decide) (by decide +kernel)) (
  zcons (zk_iadd (pc := 17) (by decide +kernel)) (
  zcons (zk_istore_n (pc := 18) (j := 3) rfl (by decide +kernel)) (
  zcons (zk_iload_n (pc := 19) (j := 3) rfl (by decide +kernel)) (
  zcons (zk_aload_n (pc := 20) (j := 0) rfl (by decide +kernel)) (
  zcons (zk_getr (pc := 21) (ci := 7) (j := 2) rfl zinX7 (by decide) zw_256 (by decide +kernel)) (
  zcons (zk_getN (pc := 24) (ci := 5) (j := 1) rfl zinX5 (by decide) zw_67 (by decide +kernel)) (
  zcons (zk_icge (pc := 27) (off := 26) (by decide) (by decide +kernel)) (
  zcons (zk_iload_n (pc := 30) (j := 1) rfl (by decide +kernel)) (
  zcons (zk_aload_n (pc := 31) (j := 0) rfl (by decide +kernel)) (
  zcons (zk_iload_n (pc := 32) (j := 2) rfl (by decide +kernel)) (
  zcons (zk_iload_n (pc := 33) (j := 3) rfl (by decide +kernel)) (
  zcons (zk_cvi (pc := 34) 142 rfl (ci := 7) rfl zw_799 zw_801 zsel_X7_fitsSwapped zds_X7_fitsSwapped (by decide) zw_802 zw_1 (by decide +kernel)) (
  zcons (zk_ifeq (pc := 37) (off := 7) (by decide) (by decide +kernel)) (
  zcons (zk_iconst (pc := 40) (z := 1) (by decide) (by decide +kernel)) (
  zcons (zk_goto (pc := 41) (off := 4) (by decide) (by decide +kernel)) (
  zcons (zk_iconst (pc := 44) (z := 0) (by decide) (by decide +kernel)) (
  zcons (zk_iadd (pc := 45) (by decide +kernel)) (
  zcons (zk_istore_n (pc := 46) (j := 1) rfl (by decide +kernel)) (
  zcons (zk_iinc (pc := 47) (z := 1) (by decide) (by decide +kernel)) (
  zcons (zk_goto (pc := 50) (off := (-31)) (by decide) (by decide +kernel)) (
  zcons (zk_iinc (pc := 53) (z := 1) (by decide) (by decide +kernel)) (
  zcons (zk_goto (pc := 56) (off := (-52)) (by decide) (by decide +kernel)) (
  zcons (zk_iload_n (pc := 59) (j := 1) rfl (by decide +kernel)) (
  zcons (zk_reti (pc := 60) rfl (by decide +kernel)) (znil)))))))))))))))))))))))))))))))))))
def tb_X7_firstSwap : List (Nat × ZP) := [(0, zo_i 0 1), (1, zo_is 1 2), (2, zo_il 1 3), (3, zo_al 0 4), (4, zo_getr 7 2 7), (7, zo_get 5 1 10), (10, zo_icge 56 13), (13, zo_il 1 14), (14, zo_i 1 15), (15, zo_bin (· + ·) 16), (16, zo_is 2 17), (17, zo_il 2 18), (18, zo_al 0 19), (19, zo_getr 7 2 22), (22, zo_get 5 1 25), (25, zo_icge 50 28), (28, zo_al 0 29), (29, zo_il 1 30), (30, zo_il 2 31), (31, zo_cvi 7 142 2 34), (34, zo_ifeq 44 37), (37, zo_i 10 39), (39, zo_il 1 40), (40, zo_bin (· * ·) 41), (41, zo_il 2 42), (42, zo_bin (· + ·) 43), (43, zo_reti), (44, zo_inc 2 1 47), (47, zo_goto 17), (50, zo_inc 1 1 53), (53, zo_goto 2), (56, zo_i (-1000000) 59), (59, zo_reti)]
def cu_X7_firstSwap : List (Nat × List Bool) := [(2, [true, true, false]), (17, [true, true, true])]
set_option maxRecDepth 100000 in
set_option maxHeartbeats 4000000 in
theorem ok_X7_firstSwap : ∀ e ∈ tb_X7_firstSwap, ZOK zmt cX7_firstSwap RX7 1 e.1 e.2 :=
  zcons (zk_iconst (pc := 0) (z := 0) (by decide) (by decide +kernel)) (
  zcons (zk_istore_n (pc := 1) (j := 1) rfl (by decide +kernel)) (
  zcons (zk_iload_n (pc := 2) (j := 1) rfl (by decide +kernel)) (
  zcons (zk_aload_n (pc := 3) (j := 0) rfl (by decide +kernel)) (
  zcons (zk_getr (pc := 4) (ci := 7) (j := 2) rfl zinX7 (by decide) zw_256 (by decide +kernel)) (
  zcons (zk_getN (pc := 7) (ci := 5) (j := 1) rfl zinX5 (by decide) zw_67 (by decide +kernel)) (
  zcons (zk_icge (pc := 10) (off := 46) (by decide) (by decide +kernel)) (
  zcons (zk_iload_n (pc := 13) (j := 1) rfl (by decide +kernel)) (
  zcons (zk_iconst (pc := 14) (z := 1) (by decide) (by decide +kernel)) (
  zcons (zk_iadd (pc := 15) (by decide +kernel)) (
  zcons (zk_istore_n (pc := 16) (j := 2) rfl (by decide +kernel)) (
  zcons (zk_iload_n (pc := 17) (j := 2) rfl (by decide +kernel)) (
  zcons (zk_aload_n (pc := 18) (j := 0) rfl (by decide +kernel)) (
  zcons (zk_getr (pc := 19) (ci := 7) (j := 2) rfl zinX7 (by decide) zw_256 (by decide +kernel)) (
  zcons (zk_getN (pc := 22) (ci := 5) (j := 1) rfl zinX5 (by decide) zw_67 (by decide +kernel)) (
  zcons (zk_icge (pc := 25) (off := 25) (by decide) (by decide +kernel)) (
  zcons (zk_aload_n (pc := 28) (j := 0) rfl (by decide +kernel)) (
  zcons (zk_iload_n (pc := 29) (j := 1) rfl (by decide +kernel)) (
  zcons (zk_iload_n (pc := 30) (j := 2) rfl (by decide +kernel)) (
  zcons (zk_cvi (pc := 31) 142 rfl (ci := 7) rfl zw_799 zw_801 zsel_X7_fitsSwapped zds_X7_fitsSwapped (by decide) zw_802 zw_1 (by decide +kernel)) (
  zcons (zk_ifeq (pc := 34) (off := 10) (by decide) (by decide +kernel)) (
  zcons (zk_bipush (pc := 37) (z := 10) (by decide) (by decide +kernel)) (
  zcons (zk_iload_n (pc := 39) (j := 1) rfl (by decide +kernel)) (
  zcons (zk_imul (pc := 40) (by decide +kernel)) (
  zcons (zk_iload_n (pc := 41) (j := 2) rfl (by decide +kernel)) (
  zcons (zk_iadd (pc := 42) (by decide +kernel)) (
  zcons (zk_reti (pc := 43) rfl (by decide +kernel)) (
  zcons (zk_iinc (pc := 44) (z := 1) (by decide) (by decide +kernel)) (
  zcons (zk_goto (pc := 47) (off := (-30)) (by decide) (by decide +kernel)) (
  zcons (zk_iinc (pc := 50) (z := 1) (by decide) (by decide +kernel)) (
  zcons (zk_goto (pc := 53) (off := (-51)) (by decide) (by decide +kernel)) (
  zcons (zk_ldcw (pc := 56) zw_657 (by decide +kernel)) (
  zcons (zk_reti (pc := 59) rfl (by decide +kernel)) (znil)))))))))))))))))))))))))))))))))
def tb_X7_fitsSwapped : List (Nat × ZP) := [(0, zo_al 0 1), (1, zo_getr 7 3 4), (4, zo_al 0 5), (5, zo_getr 7 2 8), (8, zo_cvv 5 57 1 11), (11, zo_al 0 12), (12, zo_getr 7 3 15), (15, zo_il 1 16), (16, zo_al 0 17), (17, zo_getr 7 2 20), (20, zo_getr 5 9 23), (23, zo_il 2 24), (24, zo_iald 25), (25, zo_al 0 26), (26, zo_getr 7 2 29), (29, zo_getr 5 10 32), (32, zo_il 2 33), (33, zo_iald 34), (34, zo_cvv 5 55 3 37), (37, zo_al 0 38), (38, zo_getr 7 3 41), (41, zo_il 2 42), (42, zo_al 0 43), (43, zo_getr 7 2 46), (46, zo_getr 5 9 49), (49, zo_il 1 50), (50, zo_iald 51), (51, zo_al 0 52), (52, zo_getr 7 2 55), (55, zo_getr 5 10 58), (58, zo_il 1 59), (59, zo_iald 60), (60, zo_cvv 5 55 3 63), (63, zo_al 0 64), (64, zo_getr 7 8 67), (67, zo_al 0 68), (68, zo_getr 7 3 71), (71, zo_cvi 6 79 1 74), (74, zo_retz)]
def cu_X7_fitsSwapped : List (Nat × List Bool) := []
set_option maxRecDepth 100000 in
set_option maxHeartbeats 4000000 in
theorem ok_X7_fitsSwapped : ∀ e ∈ tb_X7_fitsSwapped, ZOK zmt cX7_fitsSwapped RX7 3 e.1 e.2 :=
  zcons (zk_aload_n (pc := 0) (j := 0) rfl (by decide +kernel)) (
  zcons (zk_getr (pc := 1) (ci := 7) (j := 3) rfl zinX7 (by decide) zw_257 (by decide +kernel)) (
  zcons (zk_aload_n (pc := 4) (j := 0) rfl (by decide +kernel)) (
  zcons (zk_getr (pc := 5) (ci := 7) (j := 2) rfl zinX7 (by decide) zw_256 (by decide +kernel)) (
  zcons (zk_cvvN (pc := 8) 57 rfl (ci := 5) rfl zw_413 zw_415 zsel_X5_become zds_X5_become (by decide) zw_416 zw_3 (by decide +kernel)) (
  zcons (zk_aload_n (pc := 11) (j := 0) rfl (by decide +kernel)) (
  zcons (zk_getr (pc := 12) (ci := 7) (j := 3) rfl zinX7 (by decide) zw_257 (by decide +kernel)) (
  zcons (zk_iload_n (pc := 15) (j := 1) rfl (by decide +kernel)) (
  zcons (zk_aload_n (pc := 16) (j := 0) rfl (by decide +kernel)) (
  zcons (zk_getr (pc := 17) (ci := 7) (j := 2) rfl zinX7 (by decide) zw_256 (by decide +kernel)) (
  zcons (zk_getrN (pc := 20) (ci := 5) (j := 9) rfl zinX5 (by decide) zw_91 (by decide +kernel)) (
  zcons (zk_iload_n (pc := 23) (j := 2) rfl (by decide +kernel)) (
  zcons (zk_iaload (pc := 24) (by decide +kernel)) (
  zcons (zk_aload_n (pc := 25) (j := 0) rfl (by decide +kernel)) (
  zcons (zk_getr (pc := 26) (ci := 7) (j := 2) rfl zinX7 (by decide) zw_256 (by decide +kernel)) (
  zcons (zk_getrN (pc := 29) (ci := 5) (j := 10) rfl zinX5 (by decide) zw_95 (by decide +kernel)) (
  zcons (zk_iload_n (pc := 32) (j := 2) rfl (by decide +kernel)) (
  zcons (zk_iaload (pc := 33) (by decide +kernel)) (
  zcons (zk_cvvN (pc := 34) 55 rfl (ci := 5) rfl zw_777 zw_398 zsel_X5_put zds_X5_put (by decide) zw_399 zw_3 (by decide +kernel)) (
  zcons (zk_aload_n (pc := 37) (j := 0) rfl (by decide +kernel)) (
  zcons (zk_getr (pc := 38) (ci := 7) (j := 3) rfl zinX7 (by decide) zw_257 (by decide +kernel)) (
  zcons (zk_iload_n (pc := 41) (j := 2) rfl (by decide +kernel)) (
  zcons (zk_aload_n (pc := 42) (j := 0) rfl (by decide +kernel)) (
  zcons (zk_getr (pc := 43) (ci := 7) (j := 2) rfl zinX7 (by decide) zw_256 (by decide +kernel)) (
  zcons (zk_getrN (pc := 46) (ci := 5) (j := 9) rfl zinX5 (by decide) zw_91 (by decide +kernel)) (
  zcons (zk_iload_n (pc := 49) (j := 1) rfl (by decide +kernel)) (
  zcons (zk_iaload (pc := 50) (by decide +kernel)) (
  zcons (zk_aload_n (pc := 51) (j := 0) rfl (by decide +kernel)) (
  zcons (zk_getr (pc := 52) (ci := 7) (j := 2) rfl zinX7 (by decide) zw_256 (by decide +kernel)) (
  zcons (zk_getrN (pc := 55) (ci := 5) (j := 10) rfl zinX5 (by decide) zw_95 (by decide +kernel)) (
  zcons (zk_iload_n (pc := 58) (j := 1) rfl (by decide +kernel)) (
  zcons (zk_iaload (pc := 59) (by decide +kernel)) (
  zcons (zk_cvvN (pc := 60) 55 rfl (ci := 5) rfl zw_777 zw_398 zsel_X5_put zds_X5_put (by decide) zw_399 zw_3 (by decide +kernel)) (
  zcons (zk_aload_n (pc := 63) (j := 0) rfl (by decide +kernel)) (
  zcons (zk_getr (pc := 64) (ci := 7) (j := 8) rfl zinX7 (by decide) zw_262 (by decide +kernel)) (
  zcons (zk_aload_n (pc := 67) (j := 0) rfl (by decide +kernel)) (
  zcons (zk_getr (pc := 68) (ci := 7) (j := 3) rfl zinX7 (by decide) zw_257 (by decide +kernel)) (
  zcons (zk_cviN (pc := 71) 79 rfl (ci := 6) rfl zw_778 zw_780 zsel_X6_isSo zds_X6_isSo (by decide) zw_781 zw_7 (by decide +kernel)) (
  zcons (zk_retz (pc := 74) rfl (by decide +kernel)) (znil)))))))))))))))))))))))))))))))))))))))
def tb_X8_in : List (Nat × ZP) := [(0, zo_il 0 1), (1, zo_il 1 2), (2, zo_iclt 14 5), (5, zo_il 0 6), (6, zo_il 2 7), (7, zo_icgt 14 10), (10, zo_i 1 11), (11, zo_goto 15), (14, zo_i 0 15), (15, zo_retz)]
def cu_X8_in : List (Nat × List Bool) := []
set_option maxRecDepth 100000 in
set_option maxHeartbeats 4000000 in
theorem ok_X8_in : ∀ e ∈ tb_X8_in, ZOK zmt cX8_in RX8 3 e.1 e.2 :=
  zcons (zk_iload_n (pc := 0) (j := 0) rfl (by decide +kernel)) (
  zcons (zk_iload_n (pc := 1) (j := 1) rfl (by decide +kernel)) (
  zcons (zk_iclt (pc := 2) (off := 12) (by decide) (by decide +kernel)) (
  zcons (zk_iload_n (pc := 5) (j := 0) rfl (by decide +kernel)) (
  zcons (zk_iload_n (pc := 6) (j := 2) rfl (by decide +kernel)) (
  zcons (zk_icgt (pc := 7) (off := 7) (by decide) (by decide +kernel)) (
  zcons (zk_iconst (pc := 10) (z := 1) (by decide) (by decide +kernel)) (
  zcons (zk_goto (pc := 11) (off := 4) (by decide) (by decide +kernel)) (
  zcons (zk_iconst (pc := 14) (z := 0) (by decide) (by decide +kernel)) (
  zcons (zk_retz (pc := 15) rfl (by decide +kernel)) (znil))))))))))
def tb_X8_has : List (Nat × ZP) := [(0, zo_il 0 1), (1, zo_il 1 2), (2, zo_bin zshr 3), (3, zo_i 1 4), (4, zo_bin (· &&& ·) 5), (5, zo_i 1 6), (6, zo_icne 13 9), (9, zo_i 1 10), (10, zo_goto 14), (13, zo_i 0 14), (14, zo_retz)]
def cu_X8_has : List (Nat × List Bool) := []
set_option maxRecDepth 100000 in
set_option maxHeartbeats 4000000 in
theorem ok_X8_has : ∀ e ∈ tb_X8_has, ZOK zmt cX8_has RX8 3 e.1 e.2 :=
  zcons (zk_iload_n (pc := 0) (j := 0) rfl (by decide +kernel)) (
  zcons (zk_iload_n (pc := 1) (j := 1) rfl (by decide +kernel)) (
  zcons (zk_ishr (pc := 2) (by decide +kernel)) (
  zcons (zk_iconst (pc := 3) (z := 1) (by decide) (by decide +kernel)) (
  zcons (zk_iand (pc := 4) (by decide +kernel)) (
  zcons (zk_iconst (pc := 5) (z := 1) (by decide) (by decide +kernel)) (
  zcons (zk_icne (pc := 6) (off := 7) (by decide) (by decide +kernel)) (
  zcons (zk_iconst (pc := 9) (z := 1) (by decide) (by decide +kernel)) (
  zcons (zk_goto (pc := 10) (off := 4) (by decide) (by decide +kernel)) (
  zcons (zk_iconst (pc := 13) (z := 0) (by decide) (by decide +kernel)) (
  zcons (zk_retz (pc := 14) rfl (by decide +kernel)) (znil)))))))))))
def tb_X8_ones : List (Nat × ZP) := [(0, zo_i 0 1), (1, zo_is 1 2), (2, zo_i 0 3), (3, zo_is 2 4), (4, zo_il 2 5), (5, zo_i 10 7), (7, zo_icge 24 10), (10, zo_il 1 11), (11, zo_il 0 12), (12, zo_il 2 13), (13, zo_bin zshr 14), (14, zo_i 1 15), (15, zo_bin (· &&& ·) 16), (16, zo_bin (· + ·) 17), (17, zo_is 1 18), (18, zo_inc 2 1 21), (21, zo_goto 4), (24, zo_il 1 25), (25, zo_reti)]
def cu_X8_ones : List (Nat × List Bool) := [(4, [true, true, true])]
set_option maxRecDepth 100000 in
set_option maxHeartbeats 4000000 in
theorem ok_X8_ones : ∀ e ∈ tb_X8_ones, ZOK zmt cX8_ones RX8 1 e.1 e.2 :=
  zcons (zk_iconst (pc := 0) (z := 0) (by decide) (by decide +kernel)) (
  zcons (zk_istore_n (pc := 1) (j := 1) rfl (by decide +kernel)) (
  zcons (zk_iconst (pc := 2) (z := 0) (by decide) (by decide +kernel)) (
  zcons (zk_istore_n (pc := 3) (j := 2) rfl (by decide +kernel)) (
  zcons (zk_iload_n (pc := 4) (j := 2) rfl (by decide +kernel)) (
  zcons (zk_bipush (pc := 5) (z := 10) (by decide) (by decide +kernel)) (
  zcons (zk_icge (pc := 7) (off := 17) (by decide) (by decide +kernel)) (
  zcons (zk_iload_n (pc := 10) (j := 1) rfl (by decide +kernel)) (
  zcons (zk_iload_n (pc := 11) (j := 0) rfl (by decide +kernel)) (
  zcons (zk_iload_n (pc := 12) (j := 2) rfl (by decide +kernel)) (
  zcons (zk_ishr (pc := 13) (by decide +kernel)) (
  zcons (zk_iconst (pc := 14) (z := 1) (by decide) (by decide +kernel)) (
  zcons (zk_iand (pc := 15) (by decide +kernel)) (
  zcons (zk_iadd (pc := 16) (by decide +kernel)) (
  zcons (zk_istore_n (pc := 17) (j := 1) rfl (by decide +kernel)) (
  zcons (zk_iinc (pc := 18) (z := 1) (by decide) (by decide +kernel)) (
  zcons (zk_goto (pc := 21) (off := (-17)) (by decide) (by decide +kernel)) (
  zcons (zk_iload_n (pc := 24) (j := 1) rfl (by decide +kernel)) (
  zcons (zk_reti (pc := 25) rfl (by decide +kernel)) (znil)))))))))))))))))))
def tb_X8_isRow : List (Nat × ZP) := [(0, zo_il 0 1), (1, zo_i 0 2), (2, zo_i 7 4), (4, zo_csi 143 3 7), (7, zo_retz)]
def cu_X8_isRow : List (Nat × List Bool) := []
set_option maxRecDepth 100000 in
set_option maxHeartbeats 4000000 in
theorem ok_X8_isRow : ∀ e ∈ tb_X8_isRow, ZOK zmt cX8_isRow RX8 3 e.1 e.2 :=
  zcons (zk_iload_n (pc := 0) (j := 0) rfl (by decide +kernel)) (
  zcons (zk_iconst (pc := 1) (z := 0) (by decide) (by decide +kernel)) (
  zcons (zk_bipush (pc := 2) (z := 7) (by decide) (by decide +kernel)) (
  zcons (zk_csi (pc := 4) 143 rfl zw_1002 zw_1003 zds_X8_in (by decide) zw_1004 zw_9 (by decide +kernel)) (
  zcons (zk_retz (pc := 7) rfl (by decide +kernel)) (znil)))))
def tb_X8_finds : List (Nat × ZP) := [(0, zo_al 0 1), (1, zo_il 1 2), (2, zo_put 8 4 5), (5, zo_i (-1000010) 7), (7, zo_il 1 8), (8, zo_bin (· - ·) 9), (9, zo_reti)]
def cu_X8_finds : List (Nat × List Bool) := []
set_option maxRecDepth 100000 in
set_option maxHeartbeats 4000000 in
theorem ok_X8_finds : ∀ e ∈ tb_X8_finds, ZOK zmt cX8_finds RX8 1 e.1 e.2 :=
  zcons (zk_aload_n (pc := 0) (j := 0) rfl (by decide +kernel)) (
  zcons (zk_iload_n (pc := 1) (j := 1) rfl (by decide +kernel)) (
  zcons (zk_put (pc := 2) (ci := 8) (j := 4) rfl zinX8 (by decide) zw_929 tyX8 tyX8_ok nmX8 rfl (by decide +kernel) (by decide +kernel)) (
  zcons (zk_ldc (pc := 5) zw_1010 (by decide +kernel)) (
  zcons (zk_iload_n (pc := 7) (j := 1) rfl (by decide +kernel)) (
  zcons (zk_isub (pc := 8) (by decide +kernel)) (
  zcons (zk_reti (pc := 9) rfl (by decide +kernel)) (znil)))))))
def tb_X8_row : List (Nat × ZP) := [(0, zo_il 1 1), (1, zo_csi 146 1 4), (4, zo_ifeq 22 7), (7, zo_il 2 8), (8, zo_i 0 9), (9, zo_i 2 10), (10, zo_csi 143 3 13), (13, zo_ifeq 22 16), (16, zo_il 3 17), (17, zo_i 40 19), (19, zo_icle 25 22), (22, zo_i (-1000001) 24), (24, zo_reti), (25, zo_il 3 26), (26, zo_ifge 35 29), (29, zo_al 0 30), (30, zo_i 4 31), (31, zo_cvi 8 147 1 34), (34, zo_reti), (35, zo_al 0 36), (36, zo_i 0 37), (37, zo_put 8 4 40), (40, zo_al 0 41), (41, zo_getr 8 0 44), (44, zo_il 1 45), (45, zo_il 2 46), (46, zo_iast 47), (47, zo_al 0 48), (48, zo_getr 8 1 51), (51, zo_il 1 52), (52, zo_il 3 53), (53, zo_iast 54), (54, zo_i 0 55), (55, zo_is 4 57), (57, zo_il 4 59), (59, zo_i 40 61), (61, zo_icge 83 64), (64, zo_al 0 65), (65, zo_getr 8 2 68), (68, zo_i 40 70), (70, zo_il 1 71), (71, zo_bin (· * ·) 72), (72, zo_il 4 74), (74, zo_bin (· + ·) 75), (75, zo_i 0 76), (76, zo_iast 77), (77, zo_inc 4 1 80), (80, zo_goto 57), (83, zo_il 3 84), (84, zo_reti)]
def cu_X8_row : List (Nat × List Bool) := [(57, [true, true, false, true, true])]
set_option maxRecDepth 100000 in
set_option maxHeartbeats 4000000 in
theorem ok_X8_row : ∀ e ∈ tb_X8_row, ZOK zmt cX8_row RX8 1 e.1 e.2 :=
  zcons (zk_iload_n (pc := 0) (j := 1) rfl (by decide +kernel)) (
  zcons (zk_csi (pc := 1) 146 rfl zw_999 zw_1000 zds_X8_isRow (by decide) zw_1001 zw_9 (by decide +kernel)) (
  zcons (zk_ifeq (pc := 4) (off := 18) (by decide) (by decide +kernel)) (
  zcons (zk_iload_n (pc := 7) (j := 2) rfl (by decide +kernel)) (
  zcons (zk_iconst (pc := 8) (z := 0) (by decide) (by decide +kernel)) (
  zcons (zk_iconst (pc := 9) (z := 2) (by decide) (by decide +kernel)) (
  zcons (zk_csi (pc := 10) 143 rfl zw_1002 zw_1003 zds_X8_in (by decide) zw_1004 zw_9 (by decide +kernel)) (
  zcons (zk_ifeq (pc := 13) (off := 9) (by decide) (by decide +kernel)) (
  zcons (zk_iload_n (pc := 16) (j := 3) rfl (by decide +kernel)) (
  zcons (zk_bipush (pc := 17) (z := 40) (by decide) (by decide +kernel)) (
  zcons (zk_icle (pc := 19) (off := 6) (by decide) (by decide +kernel)) (
  zcons (zk_ldc (pc := 22) zw_1005 (by decide +kernel)) (
  zcons (zk_reti (pc := 24) rfl (by decide +kernel)) (
  zcons (zk_iload_n (pc := 25) (j := 3) rfl (by decide +kernel)) (
  zcons (zk_ifge (pc := 26) (off := 9) (by decide) (by decide +kernel)) (
  zcons (zk_aload_n (pc := 29) (j := 0) rfl (by decide +kernel)) (
  zcons (zk_iconst (pc := 30) (z := 4) (by decide) (by decide +kernel)) (
  zcons (zk_cvi (pc := 31) 147 rfl (ci := 8) rfl zw_1006 zw_1008 zsel_X8_finds zds_X8_finds (by decide) zw_1009 zw_9 (by decide +kernel)) (
  zcons (zk_reti (pc := 34) rfl (by decide +kernel)) (
  zcons (zk_aload_n (pc := 35) (j := 0) rfl (by decide +kernel)) (
  zcons (zk_iconst (pc := 36) (z := 0) (by decide) (by decide +kernel)) (
  zcons (zk_put (pc := 37) (ci := 8) (j := 4) rfl zinX8 (by decide) zw_929 tyX8 tyX8_ok nmX8 rfl (by decide +kernel) (by decide +kernel)) (
  zcons (zk_aload_n (pc := 40) (j := 0) rfl (by decide +kernel)) (
  zcons (zk_getr (pc := 41) (ci := 8) (j := 0) rfl zinX8 (by decide) zw_925 (by decide +kernel)) (
  zcons (zk_iload_n (pc := 44) (j := 1) rfl (by decide +kernel)) (
  zcons (zk_iload_n (pc := 45) (j := 2) rfl (by decide +kernel)) (
  zcons (zk_iastore (pc := 46) (by decide +kernel)) (
  zcons (zk_aload_n (pc := 47) (j := 0) rfl (by decide +kernel)) (
  zcons (zk_getr (pc := 48) (ci := 8) (j := 1) rfl zinX8 (by decide) zw_926 (by decide +kernel)) (
  zcons (zk_iload_n (pc := 51) (j := 1) rfl (by decide +kernel)) (
  zcons (zk_iload_n (pc := 52) (j := 3) rfl (by decide +kernel)) (
  zcons (zk_iastore (pc := 53) (by decide +kernel)) (
  zcons (zk_iconst (pc := 54) (z := 0) (by decide) (by decide +kernel)) (
  zcons (zk_istore (pc := 55) (by decide +kernel)) (
  zcons (zk_iload (pc := 57) (by decide +kernel)) (
  zcons (zk_bipush (pc := 59) (z := 40) (by decide) (by decide +kernel)) (
  zcons (zk_icge (pc := 61) (off := 22) (by decide) (by decide +kernel)) (
  zcons (zk_aload_n (pc := 64) (j := 0) rfl (by decide +kernel)) (
  zcons (zk_getr (pc := 65) (ci := 8) (j := 2) rfl zinX8 (by decide) zw_927 (by decide +kernel)) (
  zcons (zk_bipush (pc := 68) (z := 40) (by decide) (by decide +kernel)) (
  zcons (zk_iload_n (pc := 70) (j := 1) rfl (by decide +kernel)) (
  zcons (zk_imul (pc := 71) (by decide +kernel)) (
  zcons (zk_iload (pc := 72) (by decide +kernel)) (
  zcons (zk_iadd (pc := 74) (by decide +kernel)) (
  zcons (zk_iconst (pc := 75) (z := 0) (by decide) (by decide +kernel)) (
  zcons (zk_iastore (pc := 76) (by decide +kernel)) (
  zcons (zk_iinc (pc := 77) (z := 1) (by decide) (by decide +kernel)) (
  zcons (zk_goto (pc := 80) (off := (-23)) (by decide) (by decide +kernel)) (
  zcons (zk_iload_n (pc := 83) (j := 3) rfl (by decide +kernel)) (
  zcons (zk_reti (pc := 84) rfl (by decide +kernel)) (znil))))))))))))))))))))))))))))))))))))))))))))))))))

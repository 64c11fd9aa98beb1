def tb_X8_set : List (Nat × ZP) := [(0, zo_il 1 1), (1, zo_csi 146 1 4), (4, zo_ifne 10 7), (7, zo_i (-1000001) 9), (9, zo_reti), (10, zo_al 0 11), (11, zo_getr 8 1 14), (14, zo_il 1 15), (15, zo_iald 16), (16, zo_ifge 25 19), (19, zo_al 0 20), (20, zo_i 1 21), (21, zo_cvi 8 147 1 24), (24, zo_reti), (25, zo_il 2 26), (26, zo_i 0 27), (27, zo_al 0 28), (28, zo_getr 8 1 31), (31, zo_il 1 32), (32, zo_iald 33), (33, zo_i 1 34), (34, zo_bin (· - ·) 35), (35, zo_csi 143 3 38), (38, zo_ifne 47 41), (41, zo_al 0 42), (42, zo_i 2 43), (43, zo_cvi 8 147 1 46), (46, zo_reti), (47, zo_al 0 48), (48, zo_i 0 49), (49, zo_put 8 4 52), (52, zo_al 0 53), (53, zo_getr 8 0 56), (56, zo_il 1 57), (57, zo_iald 58), (58, zo_ifne 66 61), (61, zo_il 3 62), (62, zo_un (fun x => x.toInt8.toInt32) 63), (63, zo_goto 82), (66, zo_al 0 67), (67, zo_getr 8 0 70), (70, zo_il 1 71), (71, zo_iald 72), (72, zo_i 1 73), (73, zo_icne 81 76), (76, zo_il 3 77), (77, zo_un (fun x => x.toInt16.toInt32) 78), (78, zo_goto 82), (81, zo_il 3 82), (82, zo_is 4 84), (84, zo_al 0 85), (85, zo_getr 8 2 88), (88, zo_i 40 90), (90, zo_il 1 91), (91, zo_bin (· * ·) 92), (92, zo_il 2 93), (93, zo_bin (· + ·) 94), (94, zo_il 4 96), (96, zo_iast 97), (97, zo_il 4 99), (99, zo_reti)]
def cu_X8_set : List (Nat × List Bool) := []
set_option maxRecDepth 100000 in
set_option maxHeartbeats 4000000 in
theorem ok_X8_set : ∀ e ∈ tb_X8_set, ZOK zmt cX8_set RX8 1 e.1 e.2 :=
  zcons (zk_iload_n (pc := 0) (j := 1) rfl (by decide +kernel)) (
  zcons (zk_csi (pc := 1) 146 rfl zw_999 zw_1000 zds_X8_isRow (by decide) zw_1001 zw_9 (by decide +kernel)) (
  zcons (zk_ifne (pc := 4) (off := 6) (by decide) (by decide +kernel)) (
  zcons (zk_ldc (pc := 7) zw_1005 (by decide +kernel)) (
  zcons (zk_reti (pc := 9) rfl (by decide +kernel)) (
  zcons (zk_aload_n (pc := 10) (j := 0) rfl (by decide +kernel)) (
  zcons (zk_getr (pc := 11) (ci := 8) (j := 1) rfl zinX8 (by decide) zw_926 (by decide +kernel)) (
  zcons (zk_iload_n (pc := 14) (j := 1) rfl (by decide +kernel)) (
  zcons (zk_iaload (pc := 15) (by decide +kernel)) (
  zcons (zk_ifge (pc := 16) (off := 9) (by decide) (by decide +kernel)) (
  zcons (zk_aload_n (pc := 19) (j := 0) rfl (by decide +kernel)) (
  zcons (zk_iconst (pc := 20) (z := 1) (by decide) (by decide +kernel)) (
  zcons (zk_cvi (pc := 21) 147 rfl (ci := 8) rfl zw_1006 zw_1008 zsel_X8_finds zds_X8_finds (by decide) zw_1009 zw_9 (by decide +kernel)) (
  zcons (zk_reti (pc := 24) rfl (by decide +kernel)) (
  zcons (zk_iload_n (pc := 25) (j := 2) rfl (by decide +kernel)) (
  zcons (zk_iconst (pc := 26) (z := 0) (by decide) (by decide +kernel)) (
  zcons (zk_aload_n (pc := 27) (j := 0) rfl (by decide +kernel)) (
  zcons (zk_getr (pc := 28) (ci := 8) (j := 1) rfl zinX8 (by decide) zw_926 (by decide +kernel)) (
  zcons (zk_iload_n (pc := 31) (j := 1) rfl (by decide +kernel)) (
  zcons (zk_iaload (pc := 32) (by decide +kernel)) (
  zcons (zk_iconst (pc := 33) (z := 1) (by decide) (by decide +kernel)) (
  zcons (zk_isub (pc := 34) (by decide +kernel)) (
  zcons (zk_csi (pc := 35) 143 rfl zw_1002 zw_1003 zds_X8_in (by decide) zw_1004 zw_9 (by decide +kernel)) (
  zcons (zk_ifne (pc := 38) (off := 9) (by decide) (by decide +kernel)) (
  zcons (zk_aload_n (pc := 41) (j := 0) rfl (by decide +kernel)) (
  zcons (zk_iconst (pc := 42) (z := 2) (by decide) (by decide +kernel)) (
  zcons (zk_cvi (pc := 43) 147 rfl (ci := 8) rfl zw_1006 zw_1008 zsel_X8_finds zds_X8_finds (by decide) zw_1009 zw_9 (by decide +kernel)) (
  zcons (zk_reti (pc := 46) rfl (by decide +kernel)) (
  zcons (zk_aload_n (pc := 47) (j := 0) rfl (by decide +kernel)) (
  zcons (zk_iconst (pc := 48) (z := 0) (by decide) (by decide +kernel)) (
  zcons (zk_put (pc := 49) (ci := 8) (j := 4) rfl zinX8 (by decide) zw_929 tyX8 tyX8_ok nmX8 rfl (by decide +kernel) (by decide +kernel)) (
  zcons (zk_aload_n (pc := 52) (j := 0) rfl (by decide +kernel)) (
  zcons (zk_getr (pc := 53) (ci := 8) (j := 0) rfl zinX8 (by decide) zw_925 (by decide +kernel)) (
  zcons (zk_iload_n (pc := 56) (j := 1) rfl (by decide +kernel)) (
  zcons (zk_iaload (pc := 57) (by decide +kernel)) (
  zcons (zk_ifne (pc := 58) (off := 8) (by decide) (by decide +kernel)) (
  zcons (zk_iload_n (pc := 61) (j := 3) rfl (by decide +kernel)) (
  zcons (zk_i2b (pc := 62) (by decide +kernel)) (
  zcons (zk_goto (pc := 63) (off := 19) (by decide) (by decide +kernel)) (
  zcons (zk_aload_n (pc := 66) (j := 0) rfl (by decide +kernel)) (
  zcons (zk_getr (pc := 67) (ci := 8) (j := 0) rfl zinX8 (by decide) zw_925 (by decide +kernel)) (
  zcons (zk_iload_n (pc := 70) (j := 1) rfl (by decide +kernel)) (
  zcons (zk_iaload (pc := 71) (by decide +kernel)) (
  zcons (zk_iconst (pc := 72) (z := 1) (by decide) (by decide +kernel)) (
  zcons (zk_icne (pc := 73) (off := 8) (by decide) (by decide +kernel)) (
  zcons (zk_iload_n (pc := 76) (j := 3) rfl (by decide +kernel)) (
  zcons (zk_i2s (pc := 77) (by decide +kernel)) (
  zcons (zk_goto (pc := 78) (off := 4) (by decide) (by decide +kernel)) (
  zcons (zk_iload_n (pc := 81) (j := 3) rfl (by decide +kernel)) (
  zcons (zk_istore (pc := 82) (by decide +kernel)) (
  zcons (zk_aload_n (pc := 84) (j := 0) rfl (by decide +kernel)) (
  zcons (zk_getr (pc := 85) (ci := 8) (j := 2) rfl zinX8 (by decide) zw_927 (by decide +kernel)) (
  zcons (zk_bipush (pc := 88) (z := 40) (by decide) (by decide +kernel)) (
  zcons (zk_iload_n (pc := 90) (j := 1) rfl (by decide +kernel)) (
  zcons (zk_imul (pc := 91) (by decide +kernel)) (
  zcons (zk_iload_n (pc := 92) (j := 2) rfl (by decide +kernel)) (
  zcons (zk_iadd (pc := 93) (by decide +kernel)) (
  zcons (zk_iload (pc := 94) (by decide +kernel)) (
  zcons (zk_iastore (pc := 96) (by decide +kernel)) (
  zcons (zk_iload (pc := 97) (by decide +kernel)) (
  zcons (zk_reti (pc := 99) rfl (by decide +kernel)) (znil)))))))))))))))))))))))))))))))))))))))))))))))))))))))))))))
def tb_X8_isPlace : List (Nat × ZP) := [(0, zo_il 2 1), (1, zo_iflt 34 4), (4, zo_il 3 5), (5, zo_iflt 34 8), (8, zo_il 3 9), (9, zo_al 0 10), (10, zo_getr 8 1 13), (13, zo_il 1 14), (14, zo_iald 15), (15, zo_icgt 34 18), (18, zo_il 2 19), (19, zo_al 0 20), (20, zo_getr 8 1 23), (23, zo_il 1 24), (24, zo_iald 25), (25, zo_il 3 26), (26, zo_bin (· - ·) 27), (27, zo_icgt 34 30), (30, zo_i 1 31), (31, zo_goto 35), (34, zo_i 0 35), (35, zo_retz)]
def cu_X8_isPlace : List (Nat × List Bool) := []
set_option maxRecDepth 100000 in
set_option maxHeartbeats 4000000 in
theorem ok_X8_isPlace : ∀ e ∈ tb_X8_isPlace, ZOK zmt cX8_isPlace RX8 3 e.1 e.2 :=
  zcons (zk_iload_n (pc := 0) (j := 2) rfl (by decide +kernel)) (
  zcons (zk_iflt (pc := 1) (off := 33) (by decide) (by decide +kernel)) (
  zcons (zk_iload_n (pc := 4) (j := 3) rfl (by decide +kernel)) (
  zcons (zk_iflt (pc := 5) (off := 29) (by decide) (by decide +kernel)) (
  zcons (zk_iload_n (pc := 8) (j := 3) rfl (by decide +kernel)) (
  zcons (zk_aload_n (pc := 9) (j := 0) rfl (by decide +kernel)) (
  zcons (zk_getr (pc := 10) (ci := 8) (j := 1) rfl zinX8 (by decide) zw_926 (by decide +kernel)) (
  zcons (zk_iload_n (pc := 13) (j := 1) rfl (by decide +kernel)) (
  zcons (zk_iaload (pc := 14) (by decide +kernel)) (
  zcons (zk_icgt (pc := 15) (off := 19) (by decide) (by decide +kernel)) (
  zcons (zk_iload_n (pc := 18) (j := 2) rfl (by decide +kernel)) (
  zcons (zk_aload_n (pc := 19) (j := 0) rfl (by decide +kernel)) (
  zcons (zk_getr (pc := 20) (ci := 8) (j := 1) rfl zinX8 (by decide) zw_926 (by decide +kernel)) (
  zcons (zk_iload_n (pc := 23) (j := 1) rfl (by decide +kernel)) (
  zcons (zk_iaload (pc := 24) (by decide +kernel)) (
  zcons (zk_iload_n (pc := 25) (j := 3) rfl (by decide +kernel)) (
  zcons (zk_isub (pc := 26) (by decide +kernel)) (
  zcons (zk_icgt (pc := 27) (off := 7) (by decide) (by decide +kernel)) (
  zcons (zk_iconst (pc := 30) (z := 1) (by decide) (by decide +kernel)) (
  zcons (zk_goto (pc := 31) (off := 4) (by decide) (by decide +kernel)) (
  zcons (zk_iconst (pc := 34) (z := 0) (by decide) (by decide +kernel)) (
  zcons (zk_retz (pc := 35) rfl (by decide +kernel)) (znil))))))))))))))))))))))
def tb_X8_copy : List (Nat × ZP) := [(0, zo_il 1 1), (1, zo_csi 146 1 4), (4, zo_ifeq 14 7), (7, zo_il 3 8), (8, zo_csi 146 1 11), (11, zo_ifne 17 14), (14, zo_i (-1000001) 16), (16, zo_reti), (17, zo_al 0 18), (18, zo_getr 8 1 21), (21, zo_il 1 22), (22, zo_iald 23), (23, zo_iflt 35 26), (26, zo_al 0 27), (27, zo_getr 8 1 30), (30, zo_il 3 31), (31, zo_iald 32), (32, zo_ifge 41 35), (35, zo_al 0 36), (36, zo_i 1 37), (37, zo_cvi 8 147 1 40), (40, zo_reti), (41, zo_al 0 42), (42, zo_getr 8 0 45), (45, zo_il 1 46), (46, zo_iald 47), (47, zo_al 0 48), (48, zo_getr 8 0 51), (51, zo_il 3 52), (52, zo_iald 53), (53, zo_iceq 62 56), (56, zo_al 0 57), (57, zo_i 5 58), (58, zo_cvi 8 147 1 61), (61, zo_reti), (62, zo_al 0 63), (63, zo_il 1 64), (64, zo_il 2 65), (65, zo_il 5 67), (67, zo_cvi 8 150 3 70), (70, zo_ifeq 85 73), (73, zo_al 0 74), (74, zo_il 3 75), (75, zo_il 4 77), (77, zo_il 5 79), (79, zo_cvi 8 150 3 82), (82, zo_ifne 91 85), (85, zo_al 0 86), (86, zo_i 2 87), (87, zo_cvi 8 147 1 90), (90, zo_reti), (91, zo_al 0 92), (92, zo_i 0 93), (93, zo_put 8 4 96), (96, zo_i 0 97), (97, zo_is 6 99), (99, zo_il 6 101), (101, zo_il 5 103), (103, zo_icge 133 106), (106, zo_al 0 107), (107, zo_getr 8 3 110), (110, zo_il 6 112), (112, zo_al 0 113), (113, zo_getr 8 2 116), (116, zo_i 40 118), (118, zo_il 1 119), (119, zo_bin (· * ·) 120), (120, zo_il 2 121), (121, zo_bin (· + ·) 122), (122, zo_il 6 124), (124, zo_bin (· + ·) 125), (125, zo_iald 126), (126, zo_iast 127), (127, zo_inc 6 1 130), (130, zo_goto 99), (133, zo_i 0 134), (134, zo_is 6 136), (136, zo_il 6 138), (138, zo_il 5 140), (140, zo_icge 171 143), (143, zo_al 0 144), (144, zo_getr 8 2 147), (147, zo_i 40 149), (149, zo_il 3 150), (150, zo_bin (· * ·) 151), (151, zo_il 4 153), (153, zo_bin (· + ·) 154), (154, zo_il 6 156), (156, zo_bin (· + ·) 157), (157, zo_al 0 158), (158, zo_getr 8 3 161), (161, zo_il 6 163), (163, zo_iald 164), (164, zo_iast 165), (165, zo_inc 6 1 168), (168, zo_goto 136), (171, zo_il 5 173), (173, zo_reti)]
def cu_X8_copy : List (Nat × List Bool) := [(99, [true, true, true, true, true, true, true]), (136, [true, false, false, true, true, true, true])]
set_option maxRecDepth 100000 in
set_option maxHeartbeats 4000000 in
theorem ok_X8_copy : ∀ e ∈ tb_X8_copy, ZOK zmt cX8_copy RX8 1 e.1 e.2 :=
  zcons (zk_iload_n (pc := 0) (j := 1) rfl (by decide +kernel)) (
  zcons (zk_csi (pc := 1) 146 rfl zw_999 zw_1000 zds_X8_isRow (by decide) zw_1001 zw_9 (by decide +kernel)) (
  zcons (zk_ifeq (pc := 4) (off := 10) (by decide) (by decide +kernel)) (
  zcons (zk_iload_n (pc := 7) (j := 3) rfl (by decide +kernel)) (
  zcons (zk_csi (pc := 8) 146 rfl zw_999 zw_1000 zds_X8_isRow (by decide) zw_1001 zw_9 (by decide +kernel)) (
  zcons (zk_ifne (pc := 11) (off := 6) (by decide) (by decide +kernel)) (
  zcons (zk_ldc (pc := 14) zw_1005 (by decide +kernel)) (
  zcons (zk_reti (pc := 16) rfl (by decide +kernel)) (
  zcons (zk_aload_n (pc := 17) (j := 0) rfl (by decide +kernel)) (
  zcons (zk_getr (pc := 18) (ci := 8) (j := 1) rfl zinX8 (by decide) zw_926 (by decide +kernel)) (
  zcons (zk_iload_n (pc := 21) (j := 1) rfl (by decide +kernel)) (
  zcons (zk_iaload (pc := 22) (by decide +kernel)) (
  zcons (zk_iflt (pc := 23) (off := 12) (by decide) (by decide +kernel)) (
  zcons (zk_aload_n (pc := 26) (j := 0) rfl (by decide +kernel)) (
  zcons (zk_getr (pc := 27) (ci := 8) (j := 1) rfl zinX8 (by decide) zw_926 (by decide +kernel)) (
  zcons (zk_iload_n (pc := 30) (j := 3) rfl (by decide +kernel)) (
  zcons (zk_iaload (pc := 31) (by decide +kernel)) (
  zcons (zk_ifge (pc := 32) (off := 9) (by decide) (by decide +kernel)) (
  zcons (zk_aload_n (pc := 35) (j := 0) rfl (by decide +kernel)) (
  zcons (zk_iconst (pc := 36) (z := 1) (by decide) (by decide +kernel)) (
  zcons (zk_cvi (pc := 37) 147 rfl (ci := 8) rfl zw_1006 zw_1008 zsel_X8_finds zds_X8_finds (by decide) zw_1009 zw_9 (by decide +kernel)) (
  zcons (zk_reti (pc := 40) rfl (by decide +kernel)) (
  zcons (zk_aload_n (pc := 41) (j := 0) rfl (by decide +kernel)) (
  zcons (zk_getr (pc := 42) (ci := 8) (j := 0) rfl zinX8 (by decide) zw_925 (by decide +kernel)) (
  zcons (zk_iload_n (pc := 45) (j := 1) rfl (by decide +kernel)) (
  zcons (zk_iaload (pc := 46) (by decide +kernel)) (
  zcons (zk_aload_n (pc := 47) (j := 0) rfl (by decide +kernel)) (
  zcons (zk_getr (pc := 48) (ci := 8) (j := 0) rfl zinX8 (by decide) zw_925 (by decide +kernel)) (
  zcons (zk_iload_n (pc := 51) (j := 3) rfl (by decide +kernel)) (
  zcons (zk_iaload (pc := 52) (by decide +kernel)) (
  zcons (zk_iceq (pc := 53) (off := 9) (by decide) (by decide +kernel)) (
  zcons (zk_aload_n (pc := 56) (j := 0) rfl (by decide +kernel)) (
  zcons (zk_iconst (pc := 57) (z := 5) (by decide) (by decide +kernel)) (
  zcons (zk_cvi (pc := 58) 147 rfl (ci := 8) rfl zw_1006 zw_1008 zsel_X8_finds zds_X8_finds (by decide) zw_1009 zw_9 (by decide +kernel)) (
  zcons (zk_reti (pc := 61) rfl (by decide +kernel)) (
  zcons (zk_aload_n (pc := 62) (j := 0) rfl (by decide +kernel)) (
  zcons (zk_iload_n (pc := 63) (j := 1) rfl (by decide +kernel)) (
  zcons (zk_iload_n (pc := 64) (j := 2) rfl (by decide +kernel)) (
  zcons (zk_iload (pc := 65) (by decide +kernel)) (
  zcons (zk_cvi (pc := 67) 150 rfl (ci := 8) rfl zw_1019 zw_1021 zsel_X8_isPlace zds_X8_isPlace (by decide) zw_1022 zw_9 (by decide +kernel)) (
  zcons (zk_ifeq (pc := 70) (off := 15) (by decide) (by decide +kernel)) (
  zcons (zk_aload_n (pc := 73) (j := 0) rfl (by decide +kernel)) (
  zcons (zk_iload_n (pc := 74) (j := 3) rfl (by decide +kernel)) (
  zcons (zk_iload (pc := 75) (by decide +kernel)) (
  zcons (zk_iload (pc := 77) (by decide +kernel)) (
  zcons (zk_cvi (pc := 79) 150 rfl (ci := 8) rfl zw_1019 zw_1021 zsel_X8_isPlace zds_X8_isPlace (by decide) zw_1022 zw_9 (by decide +kernel)) (
  zcons (zk_ifne (pc := 82) (off := 9) (by decide) (by decide +kernel)) (
  zcons (zk_aload_n (pc := 85) (j := 0) rfl (by decide +kernel)) (
  zcons (zk_iconst (pc := 86) (z := 2) (by decide) (by decide +kernel)) (
  zcons (zk_cvi (pc := 87) 147 rfl (ci := 8) rfl zw_1006 zw_1008 zsel_X8_finds zds_X8_finds (by decide) zw_1009 zw_9 (by decide +kernel)) (
  zcons (zk_reti (pc := 90) rfl (by decide +kernel)) (
  zcons (zk_aload_n (pc := 91) (j := 0) rfl (by decide +kernel)) (
  zcons (zk_iconst (pc := 92) (z := 0) (by decide) (by decide +kernel)) (
  zcons (zk_put (pc := 93) (ci := 8) (j := 4) rfl zinX8 (by decide) zw_929 tyX8 tyX8_ok nmX8 rfl (by decide +kernel) (by decide +kernel)) (
  zcons (zk_iconst (pc := 96) (z := 0) (by decide) (by decide +kernel)) (
  zcons (zk_istore (pc := 97) (by decide +kernel)) (
  zcons (zk_iload (pc := 99) (by decide +kernel)) (
  zcons (zk_iload (pc := 101) (by decide +kernel)) (
  zcons (zk_icge (pc := 103) (off := 30) (by decide) (by decide +kernel)) (
  zcons (zk_aload_n (pc := 106) (j := 0) rfl (by decide +kernel)) (
  zcons (zk_getr (pc := 107) (ci := 8) (j := 3) rfl zinX8 (by decide) zw_928 (by decide +kernel)) (
  zcons (zk_iload (pc := 110) (by decide +kernel)) (
  zcons (zk_aload_n (pc := 112) (j := 0) rfl (by decide +kernel)) (
  zcons (zk_getr (pc := 113) (ci := 8) (j := 2) rfl zinX8 (by decide) zw_927 (by decide +kernel)) (
  zcons (zk_bipush (pc := 116) (z := 40) (by decide) (by decide +kernel)) (
  zcons (zk_iload_n (pc := 118) (j := 1) rfl (by decide +kernel)) (
  zcons (zk_imul (pc := 119) (by decide +kernel)) (
  zcons (zk_iload_n (pc := 120) (j := 2) rfl (by decide +kernel)) (
  zcons (zk_iadd (pc := 121) (by decide +kernel)) (
  zcons (zk_iload (pc := 122) (by decide +kernel)) (
  zcons (zk_iadd (pc := 124) (by decide +kernel)) (
  zcons (zk_iaload (pc := 125) (by decide +kernel)) (
  zcons (zk_iastore (pc := 126) (by decide +kernel)) (
  zcons (zk_iinc (pc := 127) (z := 1) (by decide) (by decide +kernel)) (
  zcons (zk_goto (pc := 130) (off := (-31)) (by decide) (by decide +kernel)) (
  zcons (zk_iconst (pc := 133) (z := 0) (by decide) (by decide +kernel)) (
  zcons (zk_istore (pc := 134) (by decide +kernel)) (
  zcons (zk_iload (pc := 136) (by decide +kernel)) (
  zcons (zk_iload (pc := 138) (by decide +kernel)) (
  zcons (zk_icge (pc := 140) (off := 31) (by decide) (by decide +kernel)) (
  zcons (zk_aload_n (pc := 143) (j := 0) rfl (by decide +kernel)) (
  zcons (zk_getr (pc := 144) (ci := 8) (j := 2) rfl zinX8 (by decide) zw_927 (by decide +kernel)) (
  zcons (zk_bipush (pc := 147) (z := 40) (by decide) (by decide +kernel)) (
  zcons (zk_iload_n (pc := 149) (j := 3) rfl (by decide +kernel)) (
  zcons (zk_imul (pc := 150) (by decide +kernel)) (
  zcons (zk_iload (pc := 151) (by decide +kernel)) (
  zcons (zk_iadd (pc := 153) (by decide +kernel)) (
  zcons (zk_iload (pc := 154) (by decide +kernel)) (
  zcons (zk_iadd (pc := 156) (by decide +kernel)) (
  zcons (zk_aload_n (pc := 157) (j := 0) rfl (by decide +kernel)) (
  zcons (zk_getr (pc := 158) (ci := 8) (j := 3) rfl zinX8 (by decide) zw_928 (by decide +kernel)) (
  zcons (zk_iload (pc := 161) (by decide +kernel)) (
  zcons (zk_iaload (pc := 163) (by decide +kernel)) (
  zcons (zk_iastore (pc := 164) (by decide +kernel)) (
  zcons (zk_iinc (pc := 165) (z := 1) (by decide) (by decide +kernel)) (
  zcons (zk_goto (pc := 168) (off := (-32)) (by decide) (by decide +kernel)) (
  zcons (zk_iload (pc := 171) (by decide +kernel)) (
  zcons (zk_reti (pc := 173) rfl (by decide +kernel)) (znil))))))))))))))))))))))))))))))))))))))))))))))))))))))))))))))))))))))))))))))))))))))))))))))))))
def tb_X8_drop : List (Nat × ZP) := [(0, zo_il 1 1), (1, zo_csi 146 1 4), (4, zo_ifne 10 7), (7, zo_i (-1000001) 9), (9, zo_reti), (10, zo_al 0 11), (11, zo_getr 8 1 14), (14, zo_il 1 15), (15, zo_iald 16), (16, zo_ifge 25 19), (19, zo_al 0 20), (20, zo_i 1 21), (21, zo_cvi 8 147 1 24), (24, zo_reti), (25, zo_al 0 26), (26, zo_i 0 27), (27, zo_put 8 4 30), (30, zo_al 0 31), (31, zo_getr 8 1 34), (34, zo_il 1 35), (35, zo_iald 36), (36, zo_is 2 37), (37, zo_al 0 38), (38, zo_getr 8 1 41), (41, zo_il 1 42), (42, zo_i (-1) 43), (43, zo_iast 44), (44, zo_il 2 45), (45, zo_reti)]
def cu_X8_drop : List (Nat × List Bool) := []
set_option maxRecDepth 100000 in
set_option maxHeartbeats 4000000 in
theorem ok_X8_drop : ∀ e ∈ tb_X8_drop, ZOK zmt cX8_drop RX8 1 e.1 e.2 :=
  zcons (zk_iload_n (pc := 0) (j := 1) rfl (by decide +kernel)) (
  zcons (zk_csi (pc := 1) 146 rfl zw_999 zw_1000 zds_X8_isRow (by decide) zw_1001 zw_9 (by decide +kernel)) (
  zcons (zk_ifne (pc := 4) (off := 6) (by decide) (by decide +kernel)) (
  zcons (zk_ldc (pc := 7) zw_1005 (by decide +kernel)) (
  zcons (zk_reti (pc := 9) rfl (by decide +kernel)) (
  zcons (zk_aload_n (pc := 10) (j := 0) rfl (by decide +kernel)) (
  zcons (zk_getr (pc := 11) (ci := 8) (j := 1) rfl zinX8 (by decide) zw_926 (by decide +kernel)) (
  zcons (zk_iload_n (pc := 14) (j := 1) rfl (by decide +kernel)) (
  zcons (zk_iaload (pc := 15) (by decide +kernel)) (
  zcons (zk_ifge (pc := 16) (off := 9) (by decide) (by decide +kernel)) (
  zcons (zk_aload_n (pc := 19) (j := 0) rfl (by decide +kernel)) (
  zcons (zk_iconst (pc := 20) (z := 1) (by decide) (by decide +kernel)) (
  zcons (zk_cvi (pc := 21) 147 rfl (ci := 8) rfl zw_1006 zw_1008 zsel_X8_finds zds_X8_finds (by decide) zw_1009 zw_9 (by decide +kernel)) (
  zcons (zk_reti (pc := 24) rfl (by decide +kernel)) (
  zcons (zk_aload_n (pc := 25) (j := 0) rfl (by decide +kernel)) (
  zcons (zk_iconst (pc := 26) (z := 0) (by decide) (by decide +kernel)) (
  zcons (zk_put (pc := 27) (ci := 8) (j := 4) rfl zinX8 (by decide) zw_929 tyX8 tyX8_ok nmX8 rfl (by decide +kernel) (by decide +kernel)) (
  zcons (zk_aload_n (pc := 30) (j := 0) rfl (by decide +kernel)) (
  zcons (zk_getr (pc := 31) (ci := 8) (j := 1) rfl zinX8 (by decide) zw_926 (by decide +kernel)) (
  zcons (zk_iload_n (pc := 34) (j := 1) rfl (by decide +kernel)) (
  zcons (zk_iaload (pc := 35) (by decide +kernel)) (
  zcons (zk_istore_n (pc := 36) (j := 2) rfl (by decide +kernel)) (
  zcons (zk_aload_n (pc := 37) (j := 0) rfl (by decide +kernel)) (
  zcons (zk_getr (pc := 38) (ci := 8) (j := 1) rfl zinX8 (by decide) zw_926 (by decide +kernel)) (
  zcons (zk_iload_n (pc := 41) (j := 1) rfl (by decide +kernel)) (
  zcons (zk_iconst (pc := 42) (z := (-1)) (by decide) (by decide +kernel)) (
  zcons (zk_iastore (pc := 43) (by decide +kernel)) (
  zcons (zk_iload_n (pc := 44) (j := 2) rfl (by decide +kernel)) (
  zcons (zk_reti (pc := 45) rfl (by decide +kernel)) (znil)))))))))))))))))))))))))))))
def tb_X8_feed : List (Nat × ZP) := [(0, zo_il 1 1), (1, zo_i 0 2), (2, zo_i 255 5), (5, zo_csi 143 3 8), (8, zo_ifne 14 11), (11, zo_i (-1000001) 13), (13, zo_reti), (14, zo_al 0 15), (15, zo_get 8 6 18), (18, zo_i 120 20), (20, zo_icne 26 23), (23, zo_i (-1000003) 25), (25, zo_reti), (26, zo_al 0 27), (27, zo_getr 8 5 30), (30, zo_al 0 31), (31, zo_get 8 6 34), (34, zo_il 1 35), (35, zo_iast 36), (36, zo_al 0 37), (37, zo_dup 38), (38, zo_get 8 6 41), (41, zo_i 1 42), (42, zo_bin (· + ·) 43), (43, zo_put 8 6 46), (46, zo_al 0 47), (47, zo_get 8 6 50), (50, zo_reti)]
def cu_X8_feed : List (Nat × List Bool) := []
set_option maxRecDepth 100000 in
set_option maxHeartbeats 4000000 in
theorem ok_X8_feed : ∀ e ∈ tb_X8_feed, ZOK zmt cX8_feed RX8 1 e.1 e.2 :=
  zcons (zk_iload_n (pc := 0) (j := 1) rfl (by decide +kernel)) (
  zcons (zk_iconst (pc := 1) (z := 0) (by decide) (by decide +kernel)) (
  zcons (zk_sipush (pc := 2) (z := 255) (by decide) (by decide +kernel)) (
  zcons (zk_csi (pc := 5) 143 rfl zw_1002 zw_1003 zds_X8_in (by decide) zw_1004 zw_9 (by decide +kernel)) (
  zcons (zk_ifne (pc := 8) (off := 6) (by decide) (by decide +kernel)) (
  zcons (zk_ldc (pc := 11) zw_1005 (by decide +kernel)) (
  zcons (zk_reti (pc := 13) rfl (by decide +kernel)) (
  zcons (zk_aload_n (pc := 14) (j := 0) rfl (by decide +kernel)) (
  zcons (zk_get (pc := 15) (ci := 8) (j := 6) rfl zinX8 (by decide) zw_931 (by decide +kernel)) (
  zcons (zk_bipush (pc := 18) (z := 120) (by decide) (by decide +kernel)) (
  zcons (zk_icne (pc := 20) (off := 6) (by decide) (by decide +kernel)) (
  zcons (zk_ldc (pc := 23) zw_1031 (by decide +kernel)) (
  zcons (zk_reti (pc := 25) rfl (by decide +kernel)) (
  zcons (zk_aload_n (pc := 26) (j := 0) rfl (by decide +kernel)) (
  zcons (zk_getr (pc := 27) (ci := 8) (j := 5) rfl zinX8 (by decide) zw_930 (by decide +kernel)) (
  zcons (zk_aload_n (pc := 30) (j := 0) rfl (by decide +kernel)) (
  zcons (zk_get (pc := 31) (ci := 8) (j := 6) rfl zinX8 (by decide) zw_931 (by decide +kernel)) (
  zcons (zk_iload_n (pc := 34) (j := 1) rfl (by decide +kernel)) (
  zcons (zk_iastore (pc := 35) (by decide +kernel)) (
  zcons (zk_aload_n (pc := 36) (j := 0) rfl (by decide +kernel)) (
  zcons (zk_dup (pc := 37) (by decide +kernel)) (
  zcons (zk_get (pc := 38) (ci := 8) (j := 6) rfl zinX8 (by decide) zw_931 (by decide +kernel)) (
  zcons (zk_iconst (pc := 41) (z := 1) (by decide) (by decide +kernel)) (
  zcons (zk_iadd (pc := 42) (by decide +kernel)) (
  zcons (zk_put (pc := 43) (ci := 8) (j := 6) rfl zinX8 (by decide) zw_931 tyX8 tyX8_ok nmX8 rfl (by decide +kernel) (by decide +kernel)) (
  zcons (zk_aload_n (pc := 46) (j := 0) rfl (by decide +kernel)) (
  zcons (zk_get (pc := 47) (ci := 8) (j := 6) rfl zinX8 (by decide) zw_931 (by decide +kernel)) (
  zcons (zk_reti (pc := 50) rfl (by decide +kernel)) (znil))))))))))))))))))))))))))))
def tb_X8_byteAt : List (Nat × ZP) := [(0, zo_il 1 1), (1, zo_al 0 2), (2, zo_get 8 6 5), (5, zo_icge 17 8), (8, zo_al 0 9), (9, zo_getr 8 5 12), (12, zo_il 1 13), (13, zo_iald 14), (14, zo_goto 18), (17, zo_i (-1) 18), (18, zo_reti)]
def cu_X8_byteAt : List (Nat × List Bool) := []
set_option maxRecDepth 100000 in
set_option maxHeartbeats 4000000 in
theorem ok_X8_byteAt : ∀ e ∈ tb_X8_byteAt, ZOK zmt cX8_byteAt RX8 1 e.1 e.2 :=
  zcons (zk_iload_n (pc := 0) (j := 1) rfl (by decide +kernel)) (
  zcons (zk_aload_n (pc := 1) (j := 0) rfl (by decide +kernel)) (
  zcons (zk_get (pc := 2) (ci := 8) (j := 6) rfl zinX8 (by decide) zw_931 (by decide +kernel)) (
  zcons (zk_icge (pc := 5) (off := 12) (by decide) (by decide +kernel)) (
  zcons (zk_aload_n (pc := 8) (j := 0) rfl (by decide +kernel)) (
  zcons (zk_getr (pc := 9) (ci := 8) (j := 5) rfl zinX8 (by decide) zw_930 (by decide +kernel)) (
  zcons (zk_iload_n (pc := 12) (j := 1) rfl (by decide +kernel)) (
  zcons (zk_iaload (pc := 13) (by decide +kernel)) (
  zcons (zk_goto (pc := 14) (off := 4) (by decide) (by decide +kernel)) (
  zcons (zk_iconst (pc := 17) (z := (-1)) (by decide) (by decide +kernel)) (
  zcons (zk_reti (pc := 18) rfl (by decide +kernel)) (znil)))))))))))
def tb_X8_isFigure : List (Nat × ZP) := [(0, zo_il 0 1), (1, zo_i 48 3), (3, zo_i 57 5), (5, zo_csi 143 3 8), (8, zo_retz)]
def cu_X8_isFigure : List (Nat × List Bool) := []
set_option maxRecDepth 100000 in
set_option maxHeartbeats 4000000 in
theorem ok_X8_isFigure : ∀ e ∈ tb_X8_isFigure, ZOK zmt cX8_isFigure RX8 3 e.1 e.2 :=
  zcons (zk_iload_n (pc := 0) (j := 0) rfl (by decide +kernel)) (
  zcons (zk_bipush (pc := 1) (z := 48) (by decide) (by decide +kernel)) (
  zcons (zk_bipush (pc := 3) (z := 57) (by decide) (by decide +kernel)) (
  zcons (zk_csi (pc := 5) 143 rfl zw_1002 zw_1003 zds_X8_in (by decide) zw_1004 zw_9 (by decide +kernel)) (
  zcons (zk_retz (pc := 8) rfl (by decide +kernel)) (znil)))))
def tb_X8_wrongs : List (Nat × ZP) := [(0, zo_al 0 1), (1, zo_il 1 2), (2, zo_put 8 9 5), (5, zo_i 0 6), (6, zo_retz)]
def cu_X8_wrongs : List (Nat × List Bool) := []
set_option maxRecDepth 100000 in
set_option maxHeartbeats 4000000 in
theorem ok_X8_wrongs : ∀ e ∈ tb_X8_wrongs, ZOK zmt cX8_wrongs RX8 3 e.1 e.2 :=
  zcons (zk_aload_n (pc := 0) (j := 0) rfl (by decide +kernel)) (
  zcons (zk_iload_n (pc := 1) (j := 1) rfl (by decide +kernel)) (
  zcons (zk_put (pc := 2) (ci := 8) (j := 9) rfl zinX8 (by decide) zw_934 tyX8 tyX8_ok nmX8 rfl (by decide +kernel) (by decide +kernel)) (
  zcons (zk_iconst (pc := 5) (z := 0) (by decide) (by decide +kernel)) (
  zcons (zk_retz (pc := 6) rfl (by decide +kernel)) (znil)))))
def tb_X8_takes : List (Nat × ZP) := [(0, zo_al 0 1), (1, zo_al 0 2), (2, zo_get 8 7 5), (5, zo_put 8 8 8), (8, zo_al 0 9), (9, zo_al 0 10), (10, zo_get 8 7 13), (13, zo_cvi 8 154 1 16), (16, zo_il 1 17), (17, zo_iceq 26 20), (20, zo_al 0 21), (21, zo_i 1 22), (22, zo_cvi 8 156 1 25), (25, zo_retz), (26, zo_al 0 27), (27, zo_dup 28), (28, zo_get 8 7 31), (31, zo_i 1 32), (32, zo_bin (· + ·) 33), (33, zo_put 8 7 36), (36, zo_i 1 37), (37, zo_retz)]
def cu_X8_takes : List (Nat × List Bool) := []
set_option maxRecDepth 100000 in
set_option maxHeartbeats 4000000 in
theorem ok_X8_takes : ∀ e ∈ tb_X8_takes, ZOK zmt cX8_takes RX8 3 e.1 e.2 :=
  zcons (zk_aload_n (pc := 0) (j := 0) rfl (by decide +kernel)) (
  zcons (zk_aload_n (pc := 1) (j := 0) rfl (by decide +kernel)) (
  zcons (zk_get (pc := 2) (ci := 8) (j := 7) rfl zinX8 (by decide) zw_932 (by decide +kernel)) (
  zcons (zk_put (pc := 5) (ci := 8) (j := 8) rfl zinX8 (by decide) zw_933 tyX8 tyX8_ok nmX8 rfl (by decide +kernel) (by decide +kernel)) (
  zcons (zk_aload_n (pc := 8) (j := 0) rfl (by decide +kernel)) (
  zcons (zk_aload_n (pc := 9) (j := 0) rfl (by decide +kernel)) (
  zcons (zk_get (pc := 10) (ci := 8) (j := 7) rfl zinX8 (by decide) zw_932 (by decide +kernel)) (
  zcons (zk_cvi (pc := 13) 154 rfl (ci := 8) rfl zw_1048 zw_1050 zsel_X8_byteAt zds_X8_byteAt (by decide) zw_1051 zw_9 (by decide +kernel)) (
  zcons (zk_iload_n (pc := 16) (j := 1) rfl (by decide +kernel)) (
  zcons (zk_iceq (pc := 17) (off := 9) (by decide) (by decide +kernel)) (
  zcons (zk_aload_n (pc := 20) (j := 0) rfl (by decide +kernel)) (
  zcons (zk_iconst (pc := 21) (z := 1) (by decide) (by decide +kernel)) (
  zcons (zk_cvi (pc := 22) 156 rfl (ci := 8) rfl zw_1052 zw_1054 zsel_X8_wrongs zds_X8_wrongs (by decide) zw_1055 zw_9 (by decide +kernel)) (
  zcons (zk_retz (pc := 25) rfl (by decide +kernel)) (
  zcons (zk_aload_n (pc := 26) (j := 0) rfl (by decide +kernel)) (
  zcons (zk_dup (pc := 27) (by decide +kernel)) (
  zcons (zk_get (pc := 28) (ci := 8) (j := 7) rfl zinX8 (by decide) zw_932 (by decide +kernel)) (
  zcons (zk_iconst (pc := 31) (z := 1) (by decide) (by decide +kernel)) (
  zcons (zk_iadd (pc := 32) (by decide +kernel)) (
  zcons (zk_put (pc := 33) (ci := 8) (j := 7) rfl zinX8 (by decide) zw_932 tyX8 tyX8_ok nmX8 rfl (by decide +kernel) (by decide +kernel)) (
  zcons (zk_iconst (pc := 36) (z := 1) (by decide) (by decide +kernel)) (
  zcons (zk_retz (pc := 37) rfl (by decide +kernel)) (znil))))))))))))))))))))))
def tb_X8_number : List (Nat × ZP) := [(0, zo_al 0 1), (1, zo_al 0 2), (2, zo_get 8 7 5), (5, zo_put 8 8 8), (8, zo_i 0 9), (9, zo_is 4 11), (11, zo_al 0 12), (12, zo_al 0 13), (13, zo_get 8 7 16), (16, zo_cvi 8 154 1 19), (19, zo_csi 155 1 22), (22, zo_ifeq 76 25), (25, zo_al 0 26), (26, zo_get 8 7 29), (29, zo_al 0 30), (30, zo_get 8 8 33), (33, zo_i 2 34), (34, zo_bin (· + ·) 35), (35, zo_icge 59 38), (38, zo_i 10 40), (40, zo_il 4 42), (42, zo_bin (· * ·) 43), (43, zo_al 0 44), (44, zo_getr 8 5 47), (47, zo_al 0 48), (48, zo_get 8 7 51), (51, zo_iald 52), (52, zo_bin (· + ·) 53), (53, zo_i 48 55), (55, zo_bin (· - ·) 56), (56, zo_goto 61), (59, zo_il 4 61), (61, zo_is 4 63), (63, zo_al 0 64), (64, zo_dup 65), (65, zo_get 8 7 68), (68, zo_i 1 69), (69, zo_bin (· + ·) 70), (70, zo_put 8 7 73), (73, zo_goto 11), (76, zo_al 0 77), (77, zo_get 8 7 80), (80, zo_al 0 81), (81, zo_get 8 8 84), (84, zo_iceq 100 87), (87, zo_al 0 88), (88, zo_get 8 7 91), (91, zo_al 0 92), (92, zo_get 8 8 95), (95, zo_i 2 96), (96, zo_bin (· + ·) 97), (97, zo_icle 106 100), (100, zo_al 0 101), (101, zo_i 1 102), (102, zo_cvi 8 156 1 105), (105, zo_retz), (106, zo_al 0 107), (107, zo_getr 8 11 110), (110, zo_il 1 111), (111, zo_il 4 113), (113, zo_iast 114), (114, zo_il 4 116), (116, zo_il 2 117), (117, zo_il 3 118), (118, zo_csi 143 3 121), (121, zo_ifne 132 124), (124, zo_al 0 125), (125, zo_i 2 126), (126, zo_cvi 8 156 1 129), (129, zo_ifeq 136 132), (132, zo_i 1 133), (133, zo_goto 137), (136, zo_i 0 137), (137, zo_retz)]
def cu_X8_number : List (Nat × List Bool) := [(11, [true, true, true, true, true])]
set_option maxRecDepth 100000 in
set_option maxHeartbeats 4000000 in
theorem ok_X8_number : ∀ e ∈ tb_X8_number, ZOK zmt cX8_number RX8 3 e.1 e.2 :=
  zcons (zk_aload_n (pc := 0) (j := 0) rfl (by decide +kernel)) (
  zcons (zk_aload_n (pc := 1) (j := 0) rfl (by decide +kernel)) (
  zcons (zk_get (pc := 2) (ci := 8) (j := 7) rfl zinX8 (by decide) zw_932 (by decide +kernel)) (
  zcons (zk_put (pc := 5) (ci := 8) (j := 8) rfl zinX8 (by decide) zw_933 tyX8 tyX8_ok nmX8 rfl (by decide +kernel) (by decide +kernel)) (
  zcons (zk_iconst (pc := 8) (z := 0) (by decide) (by decide +kernel)) (
  zcons (zk_istore (pc := 9) (by decide +kernel)) (
  zcons (zk_aload_n (pc := 11) (j := 0) rfl (by decide +kernel)) (
  zcons (zk_aload_n (pc := 12) (j := 0) rfl (by decide +kernel)) (
  zcons (zk_get (pc := 13) (ci := 8) (j := 7) rfl zinX8 (by decide) zw_932 (by decide +kernel)) (
  zcons (zk_cvi (pc := 16) 154 rfl (ci := 8) rfl zw_1048 zw_1050 zsel_X8_byteAt zds_X8_byteAt (by decide) zw_1051 zw_9 (by decide +kernel)) (
  zcons (zk_csi (pc := 19) 155 rfl zw_1060 zw_1061 zds_X8_isFigure (by decide) zw_1062 zw_9 (by decide +kernel)) (
  zcons (zk_ifeq (pc := 22) (off := 54) (by decide) (by decide +kernel)) (
  zcons (zk_aload_n (pc := 25) (j := 0) rfl (by decide +kernel)) (
  zcons (zk_get (pc := 26) (ci := 8) (j := 7) rfl zinX8 (by decide) zw_932 (by decide +kernel)) (
  zcons (zk_aload_n (pc := 29) (j := 0) rfl (by decide +kernel)) (
  zcons (zk_get (pc := 30) (ci := 8) (j := 8) rfl zinX8 (by decide) zw_933 (by decide +kernel)) (
  zcons (zk_iconst (pc := 33) (z := 2) (by decide) (by decide +kernel)) (
  zcons (zk_iadd (pc := 34) (by decide +kernel)) (
  zcons (zk_icge (pc := 35) (off := 24) (by decide) (by decide +kernel)) (
  zcons (zk_bipush (pc := 38) (z := 10) (by decide) (by decide +kernel)) (
  zcons (zk_iload (pc := 40) (by decide +kernel)) (
  zcons (zk_imul (pc := 42) (by decide +kernel)) (
  zcons (zk_aload_n (pc := 43) (j := 0) rfl (by decide +kernel)) (
  zcons (zk_getr (pc := 44) (ci := 8) (j := 5) rfl zinX8 (by decide) zw_930 (by decide +kernel)) (
  zcons (zk_aload_n (pc := 47) (j := 0) rfl (by decide +kernel)) (
  zcons (zk_get (pc := 48) (ci := 8) (j := 7) rfl zinX8 (by decide) zw_932 (by decide +kernel)) (
  zcons (zk_iaload (pc := 51) (by decide +kernel)) (
  zcons (zk_iadd (pc := 52) (by decide +kernel)) (
  zcons (zk_bipush (pc := 53) (z := 48) (by decide) (by decide +kernel)) (
  zcons (zk_isub (pc := 55) (by decide +kernel)) (
  zcons (zk_goto (pc := 56) (off := 5) (by decide) (by decide +kernel)) (
  zcons (zk_iload (pc := 59) (by decide +kernel)) (
  zcons (zk_istore (pc := 61) (by decide +kernel)) (
  zcons (zk_aload_n (pc := 63) (j := 0) rfl (by decide +kernel)) (
  zcons (zk_dup (pc := 64) (by decide +kernel)) (
  zcons (zk_get (pc := 65) (ci := 8) (j := 7) rfl zinX8 (by decide) zw_932 (by decide +kernel)) (
  zcons (zk_iconst (pc := 68) (z := 1) (by decide) (by decide +kernel)) (
  zcons (zk_iadd (pc := 69) (by decide +kernel)) (
  zcons (zk_put (pc := 70) (ci := 8) (j := 7) rfl zinX8 (by decide) zw_932 tyX8 tyX8_ok nmX8 rfl (by decide +kernel) (by decide +kernel)) (
  zcons (zk_goto (pc := 73) (off := (-62)) (by decide) (by decide +kernel)) (
  zcons (zk_aload_n (pc := 76) (j := 0) rfl (by decide +kernel)) (
  zcons (zk_get (pc := 77) (ci := 8) (j := 7) rfl zinX8 (by decide) zw_932 (by decide +kernel)) (
  zcons (zk_aload_n (pc := 80) (j := 0) rfl (by decide +kernel)) (
  zcons (zk_get (pc := 81) (ci := 8) (j := 8) rfl zinX8 (by decide) zw_933 (by decide +kernel)) (
  zcons (zk_iceq (pc := 84) (off := 16) (by decide) (by decide +kernel)) (
  zcons (zk_aload_n (pc := 87) (j := 0) rfl (by decide +kernel)) (
  zcons (zk_get (pc := 88) (ci := 8) (j := 7) rfl zinX8 (by decide) zw_932 (by decide +kernel)) (
  zcons (zk_aload_n (pc := 91) (j := 0) rfl (by decide +kernel)) (
  zcons (zk_get (pc := 92) (ci := 8) (j := 8) rfl zinX8 (by decide) zw_933 (by decide +kernel)) (
  zcons (zk_iconst (pc := 95) (z := 2) (by decide) (by decide +kernel)) (
  zcons (zk_iadd (pc := 96) (by decide +kernel)) (
  zcons (zk_icle (pc := 97) (off := 9) (by decide) (by decide +kernel)) (
  zcons (zk_aload_n (pc := 100) (j := 0) rfl (by decide +kernel)) (
  zcons (zk_iconst (pc := 101) (z := 1) (by decide) (by decide +kernel)) (
  zcons (zk_cvi (pc := 102) 156 rfl (ci := 8) rfl zw_1052 zw_1054 zsel_X8_wrongs zds_X8_wrongs (by decide) zw_1055 zw_9 (by decide +kernel)) (
  zcons (zk_retz (pc := 105) rfl (by decide +kernel)) (
  zcons (zk_aload_n (pc := 106) (j := 0) rfl (by decide +kernel)) (
  zcons (zk_getr (pc := 107) (ci := 8) (j := 11) rfl zinX8 (by decide) zw_936 (by decide +kernel)) (
  zcons (zk_iload_n (pc := 110) (j := 1) rfl (by decide +kernel)) (
  zcons (zk_iload (pc := 111) (by decide +kernel)) (
  zcons (zk_iastore (pc := 113) (by decide +kernel)) (
  zcons (zk_iload (pc := 114) (by decide +kernel)) (
  zcons (zk_iload_n (pc := 116) (j := 2) rfl (by decide +kernel)) (
  zcons (zk_iload_n (pc := 117) (j := 3) rfl (by decide +kernel)) (
  zcons (zk_csi (pc := 118) 143 rfl zw_1002 zw_1003 zds_X8_in (by decide) zw_1004 zw_9 (by decide +kernel)) (
  zcons (zk_ifne (pc := 121) (off := 11) (by decide) (by decide +kernel)) (
  zcons (zk_aload_n (pc := 124) (j := 0) rfl (by decide +kernel)) (
  zcons (zk_iconst (pc := 125) (z := 2) (by decide) (by decide +kernel)) (
  zcons (zk_cvi (pc := 126) 156 rfl (ci := 8) rfl zw_1052 zw_1054 zsel_X8_wrongs zds_X8_wrongs (by decide) zw_1055 zw_9 (by decide +kernel)) (
  zcons (zk_ifeq (pc := 129) (off := 7) (by decide) (by decide +kernel)) (
  zcons (zk_iconst (pc := 132) (z := 1) (by decide) (by decide +kernel)) (
  zcons (zk_goto (pc := 133) (off := 4) (by decide) (by decide +kernel)) (
  zcons (zk_iconst (pc := 136) (z := 0) (by decide) (by decide +kernel)) (
  zcons (zk_retz (pc := 137) rfl (by decide +kernel)) (znil))))))))))))))))))))))))))))))))))))))))))))))))))))))))))))))))))))))))))
def tb_X8_kindBy : List (Nat × ZP) := [(0, zo_il 0 1), (1, zo_i 111 3), (3, zo_icne 10 6), (6, zo_i 1 7), (7, zo_goto 51), (10, zo_il 0 11), (11, zo_i 117 13), (13, zo_icne 20 16), (16, zo_i 2 17), (17, zo_goto 51), (20, zo_il 0 21), (21, zo_i 100 23), (23, zo_icne 30 26), (26, zo_i 3 27), (27, zo_goto 51), (30, zo_il 0 31), (31, zo_i 97 33), (33, zo_icne 40 36), (36, zo_i 4 37), (37, zo_goto 51), (40, zo_il 0 41), (41, zo_i 101 43), (43, zo_icne 50 46), (46, zo_i 5 47), (47, zo_goto 51), (50, zo_i 0 51), (51, zo_reti)]
def cu_X8_kindBy : List (Nat × List Bool) := []
set_option maxRecDepth 100000 in
set_option maxHeartbeats 4000000 in
theorem ok_X8_kindBy : ∀ e ∈ tb_X8_kindBy, ZOK zmt cX8_kindBy RX8 1 e.1 e.2 :=
  zcons (zk_iload_n (pc := 0) (j := 0) rfl (by decide +kernel)) (
  zcons (zk_bipush (pc := 1) (z := 111) (by decide) (by decide +kernel)) (
  zcons (zk_icne (pc := 3) (off := 7) (by decide) (by decide +kernel)) (
  zcons (zk_iconst (pc := 6) (z := 1) (by decide) (by decide +kernel)) (
  zcons (zk_goto (pc := 7) (off := 44) (by decide) (by decide +kernel)) (
  zcons (zk_iload_n (pc := 10) (j := 0) rfl (by decide +kernel)) (
  zcons (zk_bipush (pc := 11) (z := 117) (by decide) (by decide +kernel)) (
  zcons (zk_icne (pc := 13) (off := 7) (by decide) (by decide +kernel)) (
  zcons (zk_iconst (pc := 16) (z := 2) (by decide) (by decide +kernel)) (
  zcons (zk_goto (pc := 17) (off := 34) (by decide) (by decide +kernel)) (
  zcons (zk_iload_n (pc := 20) (j := 0) rfl (by decide +kernel)) (
  zcons (zk_bipush (pc := 21) (z := 100) (by decide) (by decide +kernel)) (
  zcons (zk_icne (pc := 23) (off := 7) (by decide) (by decide +kernel)) (
  zcons (zk_iconst (pc := 26) (z := 3) (by decide) (by decide +kernel)) (
  zcons (zk_goto (pc := 27) (off := 24) (by decide) (by decide +kernel)) (
  zcons (zk_iload_n (pc := 30) (j := 0) rfl (by decide +kernel)) (
  zcons (zk_bipush (pc := 31) (z := 97) (by decide) (by decide +kernel)) (
  zcons (zk_icne (pc := 33) (off := 7) (by decide) (by decide +kernel)) (
  zcons (zk_iconst (pc := 36) (z := 4) (by decide) (by decide +kernel)) (
  zcons (zk_goto (pc := 37) (off := 14) (by decide) (by decide +kernel)) (
  zcons (zk_iload_n (pc := 40) (j := 0) rfl (by decide +kernel)) (
  zcons (zk_bipush (pc := 41) (z := 101) (by decide) (by decide +kernel)) (
  zcons (zk_icne (pc := 43) (off := 7) (by decide) (by decide +kernel)) (
  zcons (zk_iconst (pc := 46) (z := 5) (by decide) (by decide +kernel)) (
  zcons (zk_goto (pc := 47) (off := 4) (by decide) (by decide +kernel)) (
  zcons (zk_iconst (pc := 50) (z := 0) (by decide) (by decide +kernel)) (
  zcons (zk_reti (pc := 51) rfl (by decide +kernel)) (znil)))))))))))))))))))))))))))
def tb_X8_readsLaw : List (Nat × ZP) := [(0, zo_al 0 1), (1, zo_i 119 3), (3, zo_cvi 8 157 1 6), (6, zo_ifeq 29 9), (9, zo_al 0 10), (10, zo_i 1 11), (11, zo_i 1 12), (12, zo_i 6 14), (14, zo_cvi 8 158 3 17), (17, zo_ifeq 29 20), (20, zo_al 0 21), (21, zo_i 44 23), (23, zo_cvi 8 157 1 26), (26, zo_ifne 31 29), (29, zo_i 0 30), (30, zo_retz), (31, zo_i 10 33), (33, zo_al 0 34), (34, zo_getr 8 11 37), (37, zo_i 1 38), (38, zo_iald 39), (39, zo_dv (· / ·) 40), (40, zo_is 1 41), (41, zo_al 0 42), (42, zo_i 0 43), (43, zo_i 1 44), (44, zo_il 1 45), (45, zo_i 6 47), (47, zo_icge 54 50), (50, zo_il 1 51), (51, zo_goto 56), (54, zo_i 6 56), (56, zo_cvi 8 158 3 59), (59, zo_ifeq 96 62), (62, zo_al 0 63), (63, zo_i 44 65), (65, zo_cvi 8 157 1 68), (68, zo_ifeq 96 71), (71, zo_al 0 72), (72, zo_i 23 74), (74, zo_i 0 75), (75, zo_i 9 77), (77, zo_cvi 8 158 3 80), (80, zo_ifeq 96 83), (83, zo_al 0 84), (84, zo_i 59 86), (86, zo_cvi 8 157 1 89), (89, zo_ifeq 96 92), (92, zo_i 1 93), (93, zo_goto 97), (96, zo_i 0 97), (97, zo_retz)]
def cu_X8_readsLaw : List (Nat × List Bool) := []
set_option maxRecDepth 100000 in
set_option maxHeartbeats 4000000 in
theorem ok_X8_readsLaw : ∀ e ∈ tb_X8_readsLaw, ZOK zmt cX8_readsLaw RX8 3 e.1 e.2 :=
  zcons (zk_aload_n (pc := 0) (j := 0) rfl (by decide +kernel)) (
  zcons (zk_bipush (pc := 1) (z := 119) (by decide) (by decide +kernel)) (
  zcons (zk_cvi (pc := 3) 157 rfl (ci := 8) rfl zw_1044 zw_1046 zsel_X8_takes zds_X8_takes (by decide) zw_1047 zw_9 (by decide +kernel)) (
  zcons (zk_ifeq (pc := 6) (off := 23) (by decide) (by decide +kernel)) (
  zcons (zk_aload_n (pc := 9) (j := 0) rfl (by decide +kernel)) (
  zcons (zk_iconst (pc := 10) (z := 1) (by decide) (by decide +kernel)) (
  zcons (zk_iconst (pc := 11) (z := 1) (by decide) (by decide +kernel)) (
  zcons (zk_bipush (pc := 12) (z := 6) (by decide) (by decide +kernel)) (
  zcons (zk_cvi (pc := 14) 158 rfl (ci := 8) rfl zw_1056 zw_1058 zsel_X8_number zds_X8_number (by decide) zw_1059 zw_9 (by decide +kernel)) (
  zcons (zk_ifeq (pc := 17) (off := 12) (by decide) (by decide +kernel)) (
  zcons (zk_aload_n (pc := 20) (j := 0) rfl (by decide +kernel)) (
  zcons (zk_bipush (pc := 21) (z := 44) (by decide) (by decide +kernel)) (
  zcons (zk_cvi (pc := 23) 157 rfl (ci := 8) rfl zw_1044 zw_1046 zsel_X8_takes zds_X8_takes (by decide) zw_1047 zw_9 (by decide +kernel)) (
  zcons (zk_ifne (pc := 26) (off := 5) (by decide) (by decide +kernel)) (
  zcons (zk_iconst (pc := 29) (z := 0) (by decide) (by decide +kernel)) (
  zcons (zk_retz (pc := 30) rfl (by decide +kernel)) (
  zcons (zk_bipush (pc := 31) (z := 10) (by decide) (by decide +kernel)) (
  zcons (zk_aload_n (pc := 33) (j := 0) rfl (by decide +kernel)) (
  zcons (zk_getr (pc := 34) (ci := 8) (j := 11) rfl zinX8 (by decide) zw_936 (by decide +kernel)) (
  zcons (zk_iconst (pc := 37) (z := 1) (by decide) (by decide +kernel)) (
  zcons (zk_iaload (pc := 38) (by decide +kernel)) (
  zcons (zk_idiv (pc := 39) (by decide +kernel)) (
  zcons (zk_istore_n (pc := 40) (j := 1) rfl (by decide +kernel)) (
  zcons (zk_aload_n (pc := 41) (j := 0) rfl (by decide +kernel)) (
  zcons (zk_iconst (pc := 42) (z := 0) (by decide) (by decide +kernel)) (
  zcons (zk_iconst (pc := 43) (z := 1) (by decide) (by decide +kernel)) (
  zcons (zk_iload_n (pc := 44) (j := 1) rfl (by decide +kernel)) (
  zcons (zk_bipush (pc := 45) (z := 6) (by decide) (by decide +kernel)) (
  zcons (zk_icge (pc := 47) (off := 7) (by decide) (by decide +kernel)) (
  zcons (zk_iload_n (pc := 50) (j := 1) rfl (by decide +kernel)) (
  zcons (zk_goto (pc := 51) (off := 5) (by decide) (by decide +kernel)) (
  zcons (zk_bipush (pc := 54) (z := 6) (by decide) (by decide +kernel)) (
  zcons (zk_cvi (pc := 56) 158 rfl (ci := 8) rfl zw_1056 zw_1058 zsel_X8_number zds_X8_number (by decide) zw_1059 zw_9 (by decide +kernel)) (
  zcons (zk_ifeq (pc := 59) (off := 37) (by decide) (by decide +kernel)) (
  zcons (zk_aload_n (pc := 62) (j := 0) rfl (by decide +kernel)) (
  zcons (zk_bipush (pc := 63) (z := 44) (by decide) (by decide +kernel)) (
  zcons (zk_cvi (pc := 65) 157 rfl (ci := 8) rfl zw_1044 zw_1046 zsel_X8_takes zds_X8_takes (by decide) zw_1047 zw_9 (by decide +kernel)) (
  zcons (zk_ifeq (pc := 68) (off := 28) (by decide) (by decide +kernel)) (
  zcons (zk_aload_n (pc := 71) (j := 0) rfl (by decide +kernel)) (
  zcons (zk_bipush (pc := 72) (z := 23) (by decide) (by decide +kernel)) (
  zcons (zk_iconst (pc := 74) (z := 0) (by decide) (by decide +kernel)) (
  zcons (zk_bipush (pc := 75) (z := 9) (by decide) (by decide +kernel)) (
  zcons (zk_cvi (pc := 77) 158 rfl (ci := 8) rfl zw_1056 zw_1058 zsel_X8_number zds_X8_number (by decide) zw_1059 zw_9 (by decide +kernel)) (
  zcons (zk_ifeq (pc := 80) (off := 16) (by decide) (by decide +kernel)) (
  zcons (zk_aload_n (pc := 83) (j := 0) rfl (by decide +kernel)) (
  zcons (zk_bipush (pc := 84) (z := 59) (by decide) (by decide +kernel)) (
  zcons (zk_cvi (pc := 86) 157 rfl (ci := 8) rfl zw_1044 zw_1046 zsel_X8_takes zds_X8_takes (by decide) zw_1047 zw_9 (by decide +kernel)) (
  zcons (zk_ifeq (pc := 89) (off := 7) (by decide) (by decide +kernel)) (
  zcons (zk_iconst (pc := 92) (z := 1) (by decide) (by decide +kernel)) (
  zcons (zk_goto (pc := 93) (off := 4) (by decide) (by decide +kernel)) (
  zcons (zk_iconst (pc := 96) (z := 0) (by decide) (by decide +kernel)) (
  zcons (zk_retz (pc := 97) rfl (by decide +kernel)) (znil))))))))))))))))))))))))))))))))))))))))))))))))))))
def tb_X8_readsStamp : List (Nat × ZP) := [(0, zo_al 0 1), (1, zo_al 0 2), (2, zo_get 8 7 5), (5, zo_put 8 8 8), (8, zo_al 0 9), (9, zo_al 0 10), (10, zo_get 8 7 13), (13, zo_cvi 8 154 1 16), (16, zo_csi 159 1 19), (19, zo_is 2 20), (20, zo_il 2 21), (21, zo_ifne 30 24), (24, zo_al 0 25), (25, zo_i 1 26), (26, zo_cvi 8 156 1 29), (29, zo_retz), (30, zo_al 0 31), (31, zo_getr 8 11 34), (34, zo_i 3 35), (35, zo_il 1 36), (36, zo_bin (· + ·) 37), (37, zo_il 2 38), (38, zo_iast 39), (39, zo_al 0 40), (40, zo_dup 41), (41, zo_get 8 7 44), (44, zo_i 1 45), (45, zo_bin (· + ·) 46), (46, zo_put 8 7 49), (49, zo_al 0 50), (50, zo_i 31 52), (52, zo_il 1 53), (53, zo_bin (· + ·) 54), (54, zo_i 0 55), (55, zo_i 9 57), (57, zo_cvi 8 158 3 60), (60, zo_ifeq 76 63), (63, zo_al 0 64), (64, zo_i 59 66), (66, zo_cvi 8 157 1 69), (69, zo_ifeq 76 72), (72, zo_i 1 73), (73, zo_goto 77), (76, zo_i 0 77), (77, zo_retz)]
def cu_X8_readsStamp : List (Nat × List Bool) := []
set_option maxRecDepth 100000 in
set_option maxHeartbeats 4000000 in
theorem ok_X8_readsStamp : ∀ e ∈ tb_X8_readsStamp, ZOK zmt cX8_readsStamp RX8 3 e.1 e.2 :=
  zcons (zk_aload_n (pc := 0) (j := 0) rfl (by decide +kernel)) (
  zcons (zk_aload_n (pc := 1) (j := 0) rfl (by decide +kernel)) (
  zcons (zk_get (pc := 2) (ci := 8) (j := 7) rfl zinX8 (by decide) zw_932 (by decide +kernel)) (
  zcons (zk_put (pc := 5) (ci := 8) (j := 8) rfl zinX8 (by decide) zw_933 tyX8 tyX8_ok nmX8 rfl (by decide +kernel) (by decide +kernel)) (
  zcons (zk_aload_n (pc := 8) (j := 0) rfl (by decide +kernel)) (
  zcons (zk_aload_n (pc := 9) (j := 0) rfl (by decide +kernel)) (
  zcons (zk_get (pc := 10) (ci := 8) (j := 7) rfl zinX8 (by decide) zw_932 (by decide +kernel)) (
  zcons (zk_cvi (pc := 13) 154 rfl (ci := 8) rfl zw_1048 zw_1050 zsel_X8_byteAt zds_X8_byteAt (by decide) zw_1051 zw_9 (by decide +kernel)) (
  zcons (zk_csi (pc := 16) 159 rfl zw_1067 zw_1068 zds_X8_kindBy (by decide) zw_1069 zw_9 (by decide +kernel)) (
  zcons (zk_istore_n (pc := 19) (j := 2) rfl (by decide +kernel)) (
  zcons (zk_iload_n (pc := 20) (j := 2) rfl (by decide +kernel)) (
  zcons (zk_ifne (pc := 21) (off := 9) (by decide) (by decide +kernel)) (
  zcons (zk_aload_n (pc := 24) (j := 0) rfl (by decide +kernel)) (
  zcons (zk_iconst (pc := 25) (z := 1) (by decide) (by decide +kernel)) (
  zcons (zk_cvi (pc := 26) 156 rfl (ci := 8) rfl zw_1052 zw_1054 zsel_X8_wrongs zds_X8_wrongs (by decide) zw_1055 zw_9 (by decide +kernel)) (
  zcons (zk_retz (pc := 29) rfl (by decide +kernel)) (
  zcons (zk_aload_n (pc := 30) (j := 0) rfl (by decide +kernel)) (
  zcons (zk_getr (pc := 31) (ci := 8) (j := 11) rfl zinX8 (by decide) zw_936 (by decide +kernel)) (
  zcons (zk_iconst (pc := 34) (z := 3) (by decide) (by decide +kernel)) (
  zcons (zk_iload_n (pc := 35) (j := 1) rfl (by decide +kernel)) (
  zcons (zk_iadd (pc := 36) (by decide +kernel)) (
  zcons (zk_iload_n (pc := 37) (j := 2) rfl (by decide +kernel)) (
  zcons (zk_iastore (pc := 38) (by decide +kernel)) (
  zcons (zk_aload_n (pc := 39) (j := 0) rfl (by decide +kernel)) (
  zcons (zk_dup (pc := 40) (by decide +kernel)) (
  zcons (zk_get (pc := 41) (ci := 8) (j := 7) rfl zinX8 (by decide) zw_932 (by decide +kernel)) (
  zcons (zk_iconst (pc := 44) (z := 1) (by decide) (by decide +kernel)) (
  zcons (zk_iadd (pc := 45) (by decide +kernel)) (
  zcons (zk_put (pc := 46) (ci := 8) (j := 7) rfl zinX8 (by decide) zw_932 tyX8 tyX8_ok nmX8 rfl (by decide +kernel) (by decide +kernel)) (
  zcons (zk_aload_n (pc := 49) (j := 0) rfl (by decide +kernel)) (
  zcons (zk_bipush (pc := 50) (z := 31) (by decide) (by decide +kernel)) (
  zcons (zk_iload_n (pc := 52) (j := 1) rfl (by decide +kernel)) (
  zcons (zk_iadd (pc := 53) (by decide +kernel)) (
  zcons (zk_iconst (pc := 54) (z := 0) (by decide) (by decide +kernel)) (
  zcons (zk_bipush (pc := 55) (z := 9) (by decide) (by decide +kernel)) (
  zcons (zk_cvi (pc := 57) 158 rfl (ci := 8) rfl zw_1056 zw_1058 zsel_X8_number zds_X8_number (by decide) zw_1059 zw_9 (by decide +kernel)) (
  zcons (zk_ifeq (pc := 60) (off := 16) (by decide) (by decide +kernel)) (
  zcons (zk_aload_n (pc := 63) (j := 0) rfl (by decide +kernel)) (
  zcons (zk_bipush (pc := 64) (z := 59) (by decide) (by decide +kernel)) (
  zcons (zk_cvi (pc := 66) 157 rfl (ci := 8) rfl zw_1044 zw_1046 zsel_X8_takes zds_X8_takes (by decide) zw_1047 zw_9 (by decide +kernel)) (
  zcons (zk_ifeq (pc := 69) (off := 7) (by decide) (by decide +kernel)) (
  zcons (zk_iconst (pc := 72) (z := 1) (by decide) (by decide +kernel)) (
  zcons (zk_goto (pc := 73) (off := 4) (by decide) (by decide +kernel)) (
  zcons (zk_iconst (pc := 76) (z := 0) (by decide) (by decide +kernel)) (
  zcons (zk_retz (pc := 77) rfl (by decide +kernel)) (znil)))))))))))))))))))))))))))))))))))))))))))))
def tb_X8_readsCustomer : List (Nat × ZP) := [(0, zo_al 0 1), (1, zo_getr 8 11 4), (4, zo_i 2 5), (5, zo_iald 6), (6, zo_is 1 7), (7, zo_al 0 8), (8, zo_i 110 10), (10, zo_cvi 8 157 1 13), (13, zo_ifne 48 16), (16, zo_il 1 17), (17, zo_ifne 46 20), (20, zo_al 0 21), (21, zo_al 0 22), (22, zo_get 8 7 25), (25, zo_cvi 8 154 1 28), (28, zo_csi 159 1 31), (31, zo_ifle 46 34), (34, zo_al 0 35), (35, zo_i 3 36), (36, zo_cvi 8 156 1 39), (39, zo_ifeq 46 42), (42, zo_i 1 43), (43, zo_goto 47), (46, zo_i 0 47), (47, zo_retz), (48, zo_il 1 49), (49, zo_i 5 50), (50, zo_icne 59 53), (53, zo_al 0 54), (54, zo_i 3 55), (55, zo_cvi 8 156 1 58), (58, zo_retz), (59, zo_al 0 60), (60, zo_getr 8 11 63), (63, zo_i 2 64), (64, zo_dup2 65), (65, zo_iald 66), (66, zo_i 1 67), (67, zo_bin (· + ·) 68), (68, zo_iast 69), (69, zo_al 0 70), (70, zo_i 13 72), (72, zo_il 1 73), (73, zo_bin (· + ·) 74), (74, zo_i 0 75), (75, zo_i 99 77), (77, zo_cvi 8 158 3 80), (80, zo_ifeq 127 83), (83, zo_al 0 84), (84, zo_i 44 86), (86, zo_cvi 8 157 1 89), (89, zo_ifeq 127 92), (92, zo_al 0 93), (93, zo_i 18 95), (95, zo_il 1 96), (96, zo_bin (· + ·) 97), (97, zo_al 0 98), (98, zo_getr 8 11 101), (101, zo_i 13 103), (103, zo_il 1 104), (104, zo_bin (· + ·) 105), (105, zo_iald 106), (106, zo_i 99 108), (108, zo_cvi 8 158 3 111), (111, zo_ifeq 127 114), (114, zo_al 0 115), (115, zo_i 59 117), (117, zo_cvi 8 157 1 120), (120, zo_ifeq 127 123), (123, zo_i 1 124), (124, zo_goto 128), (127, zo_i 0 128), (128, zo_retz)]
def cu_X8_readsCustomer : List (Nat × List Bool) := []
set_option maxRecDepth 100000 in
set_option maxHeartbeats 4000000 in
theorem ok_X8_readsCustomer : ∀ e ∈ tb_X8_readsCustomer, ZOK zmt cX8_readsCustomer RX8 3 e.1 e.2 :=
  zcons (zk_aload_n (pc := 0) (j := 0) rfl (by decide +kernel)) (
  zcons (zk_getr (pc := 1) (ci := 8) (j := 11) rfl zinX8 (by decide) zw_936 (by decide +kernel)) (
  zcons (zk_iconst (pc := 4) (z := 2) (by decide) (by decide +kernel)) (
  zcons (zk_iaload (pc := 5) (by decide +kernel)) (
  zcons (zk_istore_n (pc := 6) (j := 1) rfl (by decide +kernel)) (
  zcons (zk_aload_n (pc := 7) (j := 0) rfl (by decide +kernel)) (
  zcons (zk_bipush (pc := 8) (z := 110) (by decide) (by decide +kernel)) (
  zcons (zk_cvi (pc := 10) 157 rfl (ci := 8) rfl zw_1044 zw_1046 zsel_X8_takes zds_X8_takes (by decide) zw_1047 zw_9 (by decide +kernel)) (
  zcons (zk_ifne (pc := 13) (off := 35) (by decide) (by decide +kernel)) (
  zcons (zk_iload_n (pc := 16) (j := 1) rfl (by decide +kernel)) (
  zcons (zk_ifne (pc := 17) (off := 29) (by decide) (by decide +kernel)) (
  zcons (zk_aload_n (pc := 20) (j := 0) rfl (by decide +kernel)) (
  zcons (zk_aload_n (pc := 21) (j := 0) rfl (by decide +kernel)) (
  zcons (zk_get (pc := 22) (ci := 8) (j := 7) rfl zinX8 (by decide) zw_932 (by decide +kernel)) (
  zcons (zk_cvi (pc := 25) 154 rfl (ci := 8) rfl zw_1048 zw_1050 zsel_X8_byteAt zds_X8_byteAt (by decide) zw_1051 zw_9 (by decide +kernel)) (
  zcons (zk_csi (pc := 28) 159 rfl zw_1067 zw_1068 zds_X8_kindBy (by decide) zw_1069 zw_9 (by decide +kernel)) (
  zcons (zk_ifle (pc := 31) (off := 15) (by decide) (by decide +kernel)) (
  zcons (zk_aload_n (pc := 34) (j := 0) rfl (by decide +kernel)) (
  zcons (zk_iconst (pc := 35) (z := 3) (by decide) (by decide +kernel)) (
  zcons (zk_cvi (pc := 36) 156 rfl (ci := 8) rfl zw_1052 zw_1054 zsel_X8_wrongs zds_X8_wrongs (by decide) zw_1055 zw_9 (by decide +kernel)) (
  zcons (zk_ifeq (pc := 39) (off := 7) (by decide) (by decide +kernel)) (
  zcons (zk_iconst (pc := 42) (z := 1) (by decide) (by decide +kernel)) (
  zcons (zk_goto (pc := 43) (off := 4) (by decide) (by decide +kernel)) (
  zcons (zk_iconst (pc := 46) (z := 0) (by decide) (by decide +kernel)) (
  zcons (zk_retz (pc := 47) rfl (by decide +kernel)) (
  zcons (zk_iload_n (pc := 48) (j := 1) rfl (by decide +kernel)) (
  zcons (zk_iconst (pc := 49) (z := 5) (by decide) (by decide +kernel)) (
  zcons (zk_icne (pc := 50) (off := 9) (by decide) (by decide +kernel)) (
  zcons (zk_aload_n (pc := 53) (j := 0) rfl (by decide +kernel)) (
  zcons (zk_iconst (pc := 54) (z := 3) (by decide) (by decide +kernel)) (
  zcons (zk_cvi (pc := 55) 156 rfl (ci := 8) rfl zw_1052 zw_1054 zsel_X8_wrongs zds_X8_wrongs (by decide) zw_1055 zw_9 (by decide +kernel)) (
  zcons (zk_retz (pc := 58) rfl (by decide +kernel)) (
  zcons (zk_aload_n (pc := 59) (j := 0) rfl (by decide +kernel)) (
  zcons (zk_getr (pc := 60) (ci := 8) (j := 11) rfl zinX8 (by decide) zw_936 (by decide +kernel)) (
  zcons (zk_iconst (pc := 63) (z := 2) (by decide) (by decide +kernel)) (
  zcons (zk_dup2 (pc := 64) (by decide +kernel)) (
  zcons (zk_iaload (pc := 65) (by decide +kernel)) (
  zcons (zk_iconst (pc := 66) (z := 1) (by decide) (by decide +kernel)) (
  zcons (zk_iadd (pc := 67) (by decide +kernel)) (
  zcons (zk_iastore (pc := 68) (by decide +kernel)) (
  zcons (zk_aload_n (pc := 69) (j := 0) rfl (by decide +kernel)) (
  zcons (zk_bipush (pc := 70) (z := 13) (by decide) (by decide +kernel)) (
  zcons (zk_iload_n (pc := 72) (j := 1) rfl (by decide +kernel)) (
  zcons (zk_iadd (pc := 73) (by decide +kernel)) (
  zcons (zk_iconst (pc := 74) (z := 0) (by decide) (by decide +kernel)) (
  zcons (zk_bipush (pc := 75) (z := 99) (by decide) (by decide +kernel)) (
  zcons (zk_cvi (pc := 77) 158 rfl (ci := 8) rfl zw_1056 zw_1058 zsel_X8_number zds_X8_number (by decide) zw_1059 zw_9 (by decide +kernel)) (
  zcons (zk_ifeq (pc := 80) (off := 47) (by decide) (by decide +kernel)) (
  zcons (zk_aload_n (pc := 83) (j := 0) rfl (by decide +kernel)) (
  zcons (zk_bipush (pc := 84) (z := 44) (by decide) (by decide +kernel)) (
  zcons (zk_cvi (pc := 86) 157 rfl (ci := 8) rfl zw_1044 zw_1046 zsel_X8_takes zds_X8_takes (by decide) zw_1047 zw_9 (by decide +kernel)) (
  zcons (zk_ifeq (pc := 89) (off := 38) (by decide) (by decide +kernel)) (
  zcons (zk_aload_n (pc := 92) (j := 0) rfl (by decide +kernel)) (
  zcons (zk_bipush (pc := 93) (z := 18) (by decide) (by decide +kernel)) (
  zcons (zk_iload_n (pc := 95) (j := 1) rfl (by decide +kernel)) (
  zcons (zk_iadd (pc := 96) (by decide +kernel)) (
  zcons (zk_aload_n (pc := 97) (j := 0) rfl (by decide +kernel)) (
  zcons (zk_getr (pc := 98) (ci := 8) (j := 11) rfl zinX8 (by decide) zw_936 (by decide +kernel)) (
  zcons (zk_bipush (pc := 101) (z := 13) (by decide) (by decide +kernel)) (
  zcons (zk_iload_n (pc := 103) (j := 1) rfl (by decide +kernel)) (
  zcons (zk_iadd (pc := 104) (by decide +kernel)) (
  zcons (zk_iaload (pc := 105) (by decide +kernel)) (
  zcons (zk_bipush (pc := 106) (z := 99) (by decide) (by decide +kernel)) (
  zcons (zk_cvi (pc := 108) 158 rfl (ci := 8) rfl zw_1056 zw_1058 zsel_X8_number zds_X8_number (by decide) zw_1059 zw_9 (by decide +kernel)) (
  zcons (zk_ifeq (pc := 111) (off := 16) (by decide) (by decide +kernel)) (
  zcons (zk_aload_n (pc := 114) (j := 0) rfl (by decide +kernel)) (
  zcons (zk_bipush (pc := 115) (z := 59) (by decide) (by decide +kernel)) (
  zcons (zk_cvi (pc := 117) 157 rfl (ci := 8) rfl zw_1044 zw_1046 zsel_X8_takes zds_X8_takes (by decide) zw_1047 zw_9 (by decide +kernel)) (
  zcons (zk_ifeq (pc := 120) (off := 7) (by decide) (by decide +kernel)) (
  zcons (zk_iconst (pc := 123) (z := 1) (by decide) (by decide +kernel)) (
  zcons (zk_goto (pc := 124) (off := 4) (by decide) (by decide +kernel)) (
  zcons (zk_iconst (pc := 127) (z := 0) (by decide) (by decide +kernel)) (
  zcons (zk_retz (pc := 128) rfl (by decide +kernel)) (znil)))))))))))))))))))))))))))))))))))))))))))))))))))))))))))))))))))))))))
def tb_X8_reads : List (Nat × ZP) := [(0, zo_i 0 1), (1, zo_is 1 2), (2, zo_il 1 3), (3, zo_i 41 5), (5, zo_icge 21 8), (8, zo_al 0 9), (9, zo_getr 8 11 12), (12, zo_il 1 13), (13, zo_i 0 14), (14, zo_iast 15), (15, zo_inc 1 1 18), (18, zo_goto 2), (21, zo_al 0 22), (22, zo_i 0 23), (23, zo_put 8 7 26), (26, zo_al 0 27), (27, zo_cvi 8 160 0 30), (30, zo_ifne 35 33), (33, zo_i 0 34), (34, zo_retz), (35, zo_al 0 36), (36, zo_getr 8 11 39), (39, zo_i 0 40), (40, zo_dup2 41), (41, zo_iald 42), (42, zo_al 0 43), (43, zo_getr 8 11 46), (46, zo_i 1 47), (47, zo_iald 48), (48, zo_bin (· * ·) 49), (49, zo_iast 50), (50, zo_i 0 51), (51, zo_is 1 52), (52, zo_il 1 53), (53, zo_al 0 54), (54, zo_getr 8 11 57), (57, zo_i 0 58), (58, zo_iald 59), (59, zo_icge 78 62), (62, zo_al 0 63), (63, zo_il 1 64), (64, zo_cvi 8 161 1 67), (67, zo_ifne 72 70), (70, zo_i 0 71), (71, zo_retz), (72, zo_inc 1 1 75), (75, zo_goto 52), (78, zo_al 0 79), (79, zo_get 8 7 82), (82, zo_al 0 83), (83, zo_get 8 6 86), (86, zo_icge 98 89), (89, zo_al 0 90), (90, zo_cvi 8 162 0 93), (93, zo_ifne 78 96), (96, zo_i 0 97), (97, zo_retz), (98, zo_i 1 99), (99, zo_retz)]
def cu_X8_reads : List (Nat × List Bool) := [(2, [true, true]), (52, [true, true]), (78, [true, false])]
set_option maxRecDepth 100000 in
set_option maxHeartbeats 4000000 in
theorem ok_X8_reads : ∀ e ∈ tb_X8_reads, ZOK zmt cX8_reads RX8 3 e.1 e.2 :=
  zcons (zk_iconst (pc := 0) (z := 0) (by decide) (by decide +kernel)) (
  zcons (zk_istore_n (pc := 1) (j := 1) rfl (by decide +kernel)) (
  zcons (zk_iload_n (pc := 2) (j := 1) rfl (by decide +kernel)) (
  zcons (zk_bipush (pc := 3) (z := 41) (by decide) (by decide +kernel)) (
  zcons (zk_icge (pc := 5) (off := 16) (by decide) (by decide +kernel)) (
  zcons (zk_aload_n (pc := 8) (j := 0) rfl (by decide +kernel)) (
  zcons (zk_getr (pc := 9) (ci := 8) (j := 11) rfl zinX8 (by decide) zw_936 (by decide +kernel)) (
  zcons (zk_iload_n (pc := 12) (j := 1) rfl (by decide +kernel)) (
  zcons (zk_iconst (pc := 13) (z := 0) (by decide) (by decide +kernel)) (
  zcons (zk_iastore (pc := 14) (by decide +kernel)) (
  zcons (zk_iinc (pc := 15) (z := 1) (by decide) (by decide +kernel)) (
  zcons (zk_goto (pc := 18) (off := (-16)) (by decide) (by decide +kernel)) (
  zcons (zk_aload_n (pc := 21) (j := 0) rfl (by decide +kernel)) (
  zcons (zk_iconst (pc := 22) (z := 0) (by decide) (by decide +kernel)) (
  zcons (zk_put (pc := 23) (ci := 8) (j := 7) rfl zinX8 (by decide) zw_932 tyX8 tyX8_ok nmX8 rfl (by decide +kernel) (by decide +kernel)) (
  zcons (zk_aload_n (pc := 26) (j := 0) rfl (by decide +kernel)) (
  zcons (zk_cvi (pc := 27) 160 rfl (ci := 8) rfl zw_1040 zw_1042 zsel_X8_readsLaw zds_X8_readsLaw (by decide) zw_1043 zw_9 (by decide +kernel)) (
  zcons (zk_ifne (pc := 30) (off := 5) (by decide) (by decide +kernel)) (
  zcons (zk_iconst (pc := 33) (z := 0) (by decide) (by decide +kernel)) (
  zcons (zk_retz (pc := 34) rfl (by decide +kernel)) (
  zcons (zk_aload_n (pc := 35) (j := 0) rfl (by decide +kernel)) (
  zcons (zk_getr (pc := 36) (ci := 8) (j := 11) rfl zinX8 (by decide) zw_936 (by decide +kernel)) (
  zcons (zk_iconst (pc := 39) (z := 0) (by decide) (by decide +kernel)) (
  zcons (zk_dup2 (pc := 40) (by decide +kernel)) (
  zcons (zk_iaload (pc := 41) (by decide +kernel)) (
  zcons (zk_aload_n (pc := 42) (j := 0) rfl (by decide +kernel)) (
  zcons (zk_getr (pc := 43) (ci := 8) (j := 11) rfl zinX8 (by decide) zw_936 (by decide +kernel)) (
  zcons (zk_iconst (pc := 46) (z := 1) (by decide) (by decide +kernel)) (
  zcons (zk_iaload (pc := 47) (by decide +kernel)) (
  zcons (zk_imul (pc := 48) (by decide +kernel)) (
  zcons (zk_iastore (pc := 49) (by decide +kernel)) (
  zcons (zk_iconst (pc := 50) (z := 0) (by decide) (by decide +kernel)) (
  zcons (zk_istore_n (pc := 51) (j := 1) rfl (by decide +kernel)) (
  zcons (zk_iload_n (pc := 52) (j := 1) rfl (by decide +kernel)) (
  zcons (zk_aload_n (pc := 53) (j := 0) rfl (by decide +kernel)) (
  zcons (zk_getr (pc := 54) (ci := 8) (j := 11) rfl zinX8 (by decide) zw_936 (by decide +kernel)) (
  zcons (zk_iconst (pc := 57) (z := 0) (by decide) (by decide +kernel)) (
  zcons (zk_iaload (pc := 58) (by decide +kernel)) (
  zcons (zk_icge (pc := 59) (off := 19) (by decide) (by decide +kernel)) (
  zcons (zk_aload_n (pc := 62) (j := 0) rfl (by decide +kernel)) (
  zcons (zk_iload_n (pc := 63) (j := 1) rfl (by decide +kernel)) (
  zcons (zk_cvi (pc := 64) 161 rfl (ci := 8) rfl zw_1063 zw_1065 zsel_X8_readsStamp zds_X8_readsStamp (by decide) zw_1066 zw_9 (by decide +kernel)) (
  zcons (zk_ifne (pc := 67) (off := 5) (by decide) (by decide +kernel)) (
  zcons (zk_iconst (pc := 70) (z := 0) (by decide) (by decide +kernel)) (
  zcons (zk_retz (pc := 71) rfl (by decide +kernel)) (
  zcons (zk_iinc (pc := 72) (z := 1) (by decide) (by decide +kernel)) (
  zcons (zk_goto (pc := 75) (off := (-23)) (by decide) (by decide +kernel)) (
  zcons (zk_aload_n (pc := 78) (j := 0) rfl (by decide +kernel)) (
  zcons (zk_get (pc := 79) (ci := 8) (j := 7) rfl zinX8 (by decide) zw_932 (by decide +kernel)) (
  zcons (zk_aload_n (pc := 82) (j := 0) rfl (by decide +kernel)) (
  zcons (zk_get (pc := 83) (ci := 8) (j := 6) rfl zinX8 (by decide) zw_931 (by decide +kernel)) (
  zcons (zk_icge (pc := 86) (off := 12) (by decide) (by decide +kernel)) (
  zcons (zk_aload_n (pc := 89) (j := 0) rfl (by decide +kernel)) (
  zcons (zk_cvi (pc := 90) 162 rfl (ci := 8) rfl zw_1070 zw_1072 zsel_X8_readsCustomer zds_X8_readsCustomer (by decide) zw_1073 zw_9 (by decide +kernel)) (
  zcons (zk_ifne (pc := 93) (off := (-15)) (by decide) (by decide +kernel)) (
  zcons (zk_iconst (pc := 96) (z := 0) (by decide) (by decide +kernel)) (
  zcons (zk_retz (pc := 97) rfl (by decide +kernel)) (
  zcons (zk_iconst (pc := 98) (z := 1) (by decide) (by decide +kernel)) (
  zcons (zk_retz (pc := 99) rfl (by decide +kernel)) (znil)))))))))))))))))))))))))))))))))))))))))))))))))))))))))))
def tb_X8_joins : List (Nat × ZP) := [(0, zo_al 0 1), (1, zo_getr 8 10 4), (4, zo_i 0 5), (5, zo_iald 6), (6, zo_is 1 7), (7, zo_al 0 8), (8, zo_getr 8 10 11), (11, zo_i 1 12), (12, zo_iald 13), (13, zo_is 2 14), (14, zo_i 0 15), (15, zo_is 3 16), (16, zo_il 3 17), (17, zo_il 1 18), (18, zo_icge 115 21), (21, zo_il 3 22), (22, zo_il 2 23), (23, zo_dv zrem 24), (24, zo_ifle 35 27), (27, zo_i 1 28), (28, zo_il 3 29), (29, zo_i 1 30), (30, zo_bin (· - ·) 31), (31, zo_bin zshl 32), (32, zo_goto 36), (35, zo_i 0 36), (36, zo_is 4 38), (38, zo_il 4 40), (40, zo_il 3 41), (41, zo_il 2 42), (42, zo_dv zrem 43), (43, zo_il 2 44), (44, zo_i 1 45), (45, zo_bin (· - ·) 46), (46, zo_icge 57 49), (49, zo_i 1 50), (50, zo_il 3 51), (51, zo_i 1 52), (52, zo_bin (· + ·) 53), (53, zo_bin zshl 54), (54, zo_goto 58), (57, zo_i 0 58), (58, zo_bin (· ||| ·) 59), (59, zo_is 4 61), (61, zo_il 4 63), (63, zo_il 3 64), (64, zo_il 2 65), (65, zo_iclt 76 68), (68, zo_i 1 69), (69, zo_il 3 70), (70, zo_il 2 71), (71, zo_bin (· - ·) 72), (72, zo_bin zshl 73), (73, zo_goto 77), (76, zo_i 0 77), (77, zo_bin (· ||| ·) 78), (78, zo_is 4 80), (80, zo_il 4 82), (82, zo_il 3 83), (83, zo_il 2 84), (84, zo_bin (· + ·) 85), (85, zo_il 1 86), (86, zo_icge 97 89), (89, zo_i 1 90), (90, zo_il 3 91), (91, zo_il 2 92), (92, zo_bin (· + ·) 93), (93, zo_bin zshl 94), (94, zo_goto 98), (97, zo_i 0 98), (98, zo_bin (· ||| ·) 99), (99, zo_is 4 101), (101, zo_al 0 102), (102, zo_getr 8 12 105), (105, zo_il 3 106), (106, zo_il 4 108), (108, zo_iast 109), (109, zo_inc 3 1 112), (112, zo_goto 16), (115, zo_retv)]
def cu_X8_joins : List (Nat × List Bool) := [(16, [true, true, true, true, false])]
set_option maxRecDepth 100000 in
set_option maxHeartbeats 4000000 in
theorem ok_X8_joins : ∀ e ∈ tb_X8_joins, ZOK zmt cX8_joins RX8 0 e.1 e.2 :=
  zcons (zk_aload_n (pc := 0) (j := 0) rfl (by decide +kernel)) (
  zcons (zk_getr (pc := 1) (ci := 8) (j := 10) rfl zinX8 (by decide) zw_935 (by decide +kernel)) (
  zcons (zk_iconst (pc := 4) (z := 0) (by decide) (by decide +kernel)) (
  zcons (zk_iaload (pc := 5) (by decide +kernel)) (
  zcons (zk_istore_n (pc := 6) (j := 1) rfl (by decide +kernel)) (
  zcons (zk_aload_n (pc := 7) (j := 0) rfl (by decide +kernel)) (
  zcons (zk_getr (pc := 8) (ci := 8) (j := 10) rfl zinX8 (by decide) zw_935 (by decide +kernel)) (
  zcons (zk_iconst (pc := 11) (z := 1) (by decide) (by decide +kernel)) (
  zcons (zk_iaload (pc := 12) (by decide +kernel)) (
  zcons (zk_istore_n (pc := 13) (j := 2) rfl (by decide +kernel)) (
  zcons (zk_iconst (pc := 14) (z := 0) (by decide) (by decide +kernel)) (
  zcons (zk_istore_n (pc := 15) (j := 3) rfl (by decide +kernel)) (
  zcons (zk_iload_n (pc := 16) (j := 3) rfl (by decide +kernel)) (
  zcons (zk_iload_n (pc := 17) (j := 1) rfl (by decide +kernel)) (
  zcons (zk_icge (pc := 18) (off := 97) (by decide) (by decide +kernel)) (
  zcons (zk_iload_n (pc := 21) (j := 3) rfl (by decide +kernel)) (
  zcons (zk_iload_n (pc := 22) (j := 2) rfl (by decide +kernel)) (
  zcons (zk_irem (pc := 23) (by decide +kernel)) (
  zcons (zk_ifle (pc := 24) (off := 11) (by decide) (by decide +kernel)) (
  zcons (zk_iconst (pc := 27) (z := 1) (by decide) (by decide +kernel)) (
  zcons (zk_iload_n (pc := 28) (j := 3) rfl (by decide +kernel)) (
  zcons (zk_iconst (pc := 29) (z := 1) (by decide) (by decide +kernel)) (
  zcons (zk_isub (pc := 30) (by decide +kernel)) (
  zcons (zk_ishl (pc := 31) (by decide +kernel)) (
  zcons (zk_goto (pc := 32) (off := 4) (by decide) (by decide +kernel)) (
  zcons (zk_iconst (pc := 35) (z := 0) (by decide) (by decide +kernel)) (
  zcons (zk_istore (pc := 36) (by decide +kernel)) (
  zcons (zk_iload (pc := 38) (by decide +kernel)) (
  zcons (zk_iload_n (pc := 40) (j := 3) rfl (by decide +kernel)) (
  zcons (zk_iload_n (pc := 41) (j := 2) rfl (by decide +kernel)) (
  zcons (zk_irem (pc := 42) (by decide +kernel)) (
  zcons (zk_iload_n (pc := 43) (j := 2) rfl (by decide +kernel)) (
  zcons (zk_iconst (pc := 44) (z := 1) (by decide) (by decide +kernel)) (
  zcons (zk_isub (pc := 45) (by decide +kernel)) (
  zcons (zk_icge (pc := 46) (off := 11) (by decide) (by decide +kernel)) (
  zcons (zk_iconst (pc := 49) (z := 1) (by decide) (by decide +kernel)) (
  zcons (zk_iload_n (pc := 50) (j := 3) rfl (by decide +kernel)) (
  zcons (zk_iconst (pc := 51) (z := 1) (by decide) (by decide +kernel)) (
  zcons (zk_iadd (pc := 52) (by decide +kernel)) (
  zcons (zk_ishl (pc := 53) (by decide +kernel)) (
  zcons (zk_goto (pc := 54) (off := 4) (by decide) (by decide +kernel)) (
  zcons (zk_iconst (pc := 57) (z := 0) (by decide) (by decide +kernel)) (
  zcons (zk_ior (pc := 58) (by decide +kernel)) (
  zcons (zk_istore (pc := 59) (by decide +kernel)) (
  zcons (zk_iload (pc := 61) (by decide +kernel)) (
  zcons (zk_iload_n (pc := 63) (j := 3) rfl (by decide +kernel)) (
  zcons (zk_iload_n (pc := 64) (j := 2) rfl (by decide +kernel)) (
  zcons (zk_iclt (pc := 65) (off := 11) (by decide) (by decide +kernel)) (
  zcons (zk_iconst (pc := 68) (z := 1) (by decide) (by decide +kernel)) (
  zcons (zk_iload_n (pc := 69) (j := 3) rfl (by decide +kernel)) (
  zcons (zk_iload_n (pc := 70) (j := 2) rfl (by decide +kernel)) (
  zcons (zk_isub (pc := 71) (by decide +kernel)) (
  zcons (zk_ishl (pc := 72) (by decide +kernel)) (
  zcons (zk_goto (pc := 73) (off := 4) (by decide) (by decide +kernel)) (
  zcons (zk_iconst (pc := 76) (z := 0) (by decide) (by decide +kernel)) (
  zcons (zk_ior (pc := 77) (by decide +kernel)) (
  zcons (zk_istore (pc := 78) (by decide +kernel)) (
  zcons (zk_iload (pc := 80) (by decide +kernel)) (
  zcons (zk_iload_n (pc := 82) (j := 3) rfl (by decide +kernel)) (
  zcons (zk_iload_n (pc := 83) (j := 2) rfl (by decide +kernel)) (
  zcons (zk_iadd (pc := 84) (by decide +kernel)) (
  zcons (zk_iload_n (pc := 85) (j := 1) rfl (by decide +kernel)) (
  zcons (zk_icge (pc := 86) (off := 11) (by decide) (by decide +kernel)) (
  zcons (zk_iconst (pc := 89) (z := 1) (by decide) (by decide +kernel)) (
  zcons (zk_iload_n (pc := 90) (j := 3) rfl (by decide +kernel)) (
  zcons (zk_iload_n (pc := 91) (j := 2) rfl (by decide +kernel)) (
  zcons (zk_iadd (pc := 92) (by decide +kernel)) (
  zcons (zk_ishl (pc := 93) (by decide +kernel)) (
  zcons (zk_goto (pc := 94) (off := 4) (by decide) (by decide +kernel)) (
  zcons (zk_iconst (pc := 97) (z := 0) (by decide) (by decide +kernel)) (
  zcons (zk_ior (pc := 98) (by decide +kernel)) (
  zcons (zk_istore (pc := 99) (by decide +kernel)) (
  zcons (zk_aload_n (pc := 101) (j := 0) rfl (by decide +kernel)) (
  zcons (zk_getr (pc := 102) (ci := 8) (j := 12) rfl zinX8 (by decide) zw_937 (by decide +kernel)) (
  zcons (zk_iload_n (pc := 105) (j := 3) rfl (by decide +kernel)) (
  zcons (zk_iload (pc := 106) (by decide +kernel)) (
  zcons (zk_iastore (pc := 108) (by decide +kernel)) (
  zcons (zk_iinc (pc := 109) (z := 1) (by decide) (by decide +kernel)) (
  zcons (zk_goto (pc := 112) (off := (-96)) (by decide) (by decide +kernel)) (
  zcons (zk_retv (pc := 115) rfl (by decide +kernel)) (znil))))))))))))))))))))))))))))))))))))))))))))))))))))))))))))))))))))))))))))))))
def tb_X8_sheet : List (Nat × ZP) := [(0, zo_al 0 1), (1, zo_get 8 9 4), (4, zo_is 1 5), (5, zo_al 0 6), (6, zo_cvi 8 163 0 9), (9, zo_ifne 25 12), (12, zo_al 0 13), (13, zo_i 0 14), (14, zo_put 8 6 17), (17, zo_i (-1000100) 19), (19, zo_al 0 20), (20, zo_get 8 8 23), (23, zo_bin (· - ·) 24), (24, zo_reti), (25, zo_al 0 26), (26, zo_il 1 27), (27, zo_put 8 9 30), (30, zo_al 0 31), (31, zo_i 0 32), (32, zo_put 8 6 35), (35, zo_i 0 36), (36, zo_is 2 37), (37, zo_il 2 38), (38, zo_i 41 40), (40, zo_icge 61 43), (43, zo_al 0 44), (44, zo_getr 8 10 47), (47, zo_il 2 48), (48, zo_al 0 49), (49, zo_getr 8 11 52), (52, zo_il 2 53), (53, zo_iald 54), (54, zo_iast 55), (55, zo_inc 2 1 58), (58, zo_goto 37), (61, zo_al 0 62), (62, zo_cvv 8 164 0 65), (65, zo_al 0 66), (66, zo_i 0 67), (67, zo_put 8 14 70), (70, zo_al 0 71), (71, zo_getr 8 10 74), (74, zo_i 0 75), (75, zo_iald 76), (76, zo_reti)]
def cu_X8_sheet : List (Nat × List Bool) := [(37, [true, false, true])]
set_option maxRecDepth 100000 in
set_option maxHeartbeats 4000000 in
theorem ok_X8_sheet : ∀ e ∈ tb_X8_sheet, ZOK zmt cX8_sheet RX8 1 e.1 e.2 :=
  zcons (zk_aload_n (pc := 0) (j := 0) rfl (by decide +kernel)) (
  zcons (zk_get (pc := 1) (ci := 8) (j := 9) rfl zinX8 (by decide) zw_934 (by decide +kernel)) (
  zcons (zk_istore_n (pc := 4) (j := 1) rfl (by decide +kernel)) (
  zcons (zk_aload_n (pc := 5) (j := 0) rfl (by decide +kernel)) (
  zcons (zk_cvi (pc := 6) 163 rfl (ci := 8) rfl zw_1036 zw_1038 zsel_X8_reads zds_X8_reads (by decide) zw_1039 zw_9 (by decide +kernel)) (
  zcons (zk_ifne (pc := 9) (off := 16) (by decide) (by decide +kernel)) (
  zcons (zk_aload_n (pc := 12) (j := 0) rfl (by decide +kernel)) (
  zcons (zk_iconst (pc := 13) (z := 0) (by decide) (by decide +kernel)) (
  zcons (zk_put (pc := 14) (ci := 8) (j := 6) rfl zinX8 (by decide) zw_931 tyX8 tyX8_ok nmX8 rfl (by decide +kernel) (by decide +kernel)) (
  zcons (zk_ldc (pc := 17) zw_1074 (by decide +kernel)) (
  zcons (zk_aload_n (pc := 19) (j := 0) rfl (by decide +kernel)) (
  zcons (zk_get (pc := 20) (ci := 8) (j := 8) rfl zinX8 (by decide) zw_933 (by decide +kernel)) (
  zcons (zk_isub (pc := 23) (by decide +kernel)) (
  zcons (zk_reti (pc := 24) rfl (by decide +kernel)) (
  zcons (zk_aload_n (pc := 25) (j := 0) rfl (by decide +kernel)) (
  zcons (zk_iload_n (pc := 26) (j := 1) rfl (by decide +kernel)) (
  zcons (zk_put (pc := 27) (ci := 8) (j := 9) rfl zinX8 (by decide) zw_934 tyX8 tyX8_ok nmX8 rfl (by decide +kernel) (by decide +kernel)) (
  zcons (zk_aload_n (pc := 30) (j := 0) rfl (by decide +kernel)) (
  zcons (zk_iconst (pc := 31) (z := 0) (by decide) (by decide +kernel)) (
  zcons (zk_put (pc := 32) (ci := 8) (j := 6) rfl zinX8 (by decide) zw_931 tyX8 tyX8_ok nmX8 rfl (by decide +kernel) (by decide +kernel)) (
  zcons (zk_iconst (pc := 35) (z := 0) (by decide) (by decide +kernel)) (
  zcons (zk_istore_n (pc := 36) (j := 2) rfl (by decide +kernel)) (
  zcons (zk_iload_n (pc := 37) (j := 2) rfl (by decide +kernel)) (
  zcons (zk_bipush (pc := 38) (z := 41) (by decide) (by decide +kernel)) (
  zcons (zk_icge (pc := 40) (off := 21) (by decide) (by decide +kernel)) (
  zcons (zk_aload_n (pc := 43) (j := 0) rfl (by decide +kernel)) (
  zcons (zk_getr (pc := 44) (ci := 8) (j := 10) rfl zinX8 (by decide) zw_935 (by decide +kernel)) (
  zcons (zk_iload_n (pc := 47) (j := 2) rfl (by decide +kernel)) (
  zcons (zk_aload_n (pc := 48) (j := 0) rfl (by decide +kernel)) (
  zcons (zk_getr (pc := 49) (ci := 8) (j := 11) rfl zinX8 (by decide) zw_936 (by decide +kernel)) (
  zcons (zk_iload_n (pc := 52) (j := 2) rfl (by decide +kernel)) (
  zcons (zk_iaload (pc := 53) (by decide +kernel)) (
  zcons (zk_iastore (pc := 54) (by decide +kernel)) (
  zcons (zk_iinc (pc := 55) (z := 1) (by decide) (by decide +kernel)) (
  zcons (zk_goto (pc := 58) (off := (-21)) (by decide) (by decide +kernel)) (
  zcons (zk_aload_n (pc := 61) (j := 0) rfl (by decide +kernel)) (
  zcons (zk_cvv (pc := 62) 164 rfl (ci := 8) rfl zw_1075 zw_1077 zsel_X8_joins zds_X8_joins (by decide) zw_1078 zw_9 (by decide +kernel)) (
  zcons (zk_aload_n (pc := 65) (j := 0) rfl (by decide +kernel)) (
  zcons (zk_iconst (pc := 66) (z := 0) (by decide) (by decide +kernel)) (
  zcons (zk_put (pc := 67) (ci := 8) (j := 14) rfl zinX8 (by decide) zw_939 tyX8 tyX8_ok nmX8 rfl (by decide +kernel) (by decide +kernel)) (
  zcons (zk_aload_n (pc := 70) (j := 0) rfl (by decide +kernel)) (
  zcons (zk_getr (pc := 71) (ci := 8) (j := 10) rfl zinX8 (by decide) zw_935 (by decide +kernel)) (
  zcons (zk_iconst (pc := 74) (z := 0) (by decide) (by decide +kernel)) (
  zcons (zk_iaload (pc := 75) (by decide +kernel)) (
  zcons (zk_reti (pc := 76) rfl (by decide +kernel)) (znil)))))))))))))))))))))))))))))))))))))))))))))
def tb_X8_fault : List (Nat × ZP) := [(0, zo_al 0 1), (1, zo_get 8 9 4), (4, zo_reti)]
def cu_X8_fault : List (Nat × List Bool) := []
set_option maxRecDepth 100000 in
set_option maxHeartbeats 4000000 in
theorem ok_X8_fault : ∀ e ∈ tb_X8_fault, ZOK zmt cX8_fault RX8 1 e.1 e.2 :=
  zcons (zk_aload_n (pc := 0) (j := 0) rfl (by decide +kernel)) (
  zcons (zk_get (pc := 1) (ci := 8) (j := 9) rfl zinX8 (by decide) zw_934 (by decide +kernel)) (
  zcons (zk_reti (pc := 4) rfl (by decide +kernel)) (znil)))
def tb_X8_keeps : List (Nat × ZP) := [(0, zo_al 0 1), (1, zo_get 8 14 4), (4, zo_i 24 6), (6, zo_icne 49 9), (9, zo_i 0 10), (10, zo_is 1 11), (11, zo_il 1 12), (12, zo_i 414 15), (15, zo_icge 39 18), (18, zo_al 0 19), (19, zo_getr 8 13 22), (22, zo_il 1 23), (23, zo_al 0 24), (24, zo_getr 8 13 27), (27, zo_il 1 28), (28, zo_i 18 30), (30, zo_bin (· + ·) 31), (31, zo_iald 32), (32, zo_iast 33), (33, zo_inc 1 1 36), (36, zo_goto 11), (39, zo_al 0 40), (40, zo_dup 41), (41, zo_get 8 14 44), (44, zo_i 1 45), (45, zo_bin (· - ·) 46), (46, zo_put 8 14 49), (49, zo_i 0 50), (50, zo_is 1 51), (51, zo_il 1 52), (52, zo_i 18 54), (54, zo_icge 86 57), (57, zo_al 0 58), (58, zo_getr 8 13 61), (61, zo_i 18 63), (63, zo_al 0 64), (64, zo_get 8 14 67), (67, zo_bin (· * ·) 68), (68, zo_il 1 69), (69, zo_bin (· + ·) 70), (70, zo_al 0 71), (71, zo_getr 8 10 74), (74, zo_i 23 76), (76, zo_il 1 77), (77, zo_bin (· + ·) 78), (78, zo_iald 79), (79, zo_iast 80), (80, zo_inc 1 1 83), (83, zo_goto 51), (86, zo_al 0 87), (87, zo_dup 88), (88, zo_get 8 14 91), (91, zo_i 1 92), (92, zo_bin (· + ·) 93), (93, zo_put 8 14 96), (96, zo_retv)]
def cu_X8_keeps : List (Nat × List Bool) := [(11, [true, true]), (51, [true, true])]
set_option maxRecDepth 100000 in
set_option maxHeartbeats 4000000 in
theorem ok_X8_keeps : ∀ e ∈ tb_X8_keeps, ZOK zmt cX8_keeps RX8 0 e.1 e.2 :=
  zcons (zk_aload_n (pc := 0) (j := 0) rfl (by decide +kernel)) (
  zcons (zk_get (pc := 1) (ci := 8) (j := 14) rfl zinX8 (by decide) zw_939 (by decide +kernel)) (
  zcons (zk_bipush (pc := 4) (z := 24) (by decide) (by decide +kernel)) (
  zcons (zk_icne (pc := 6) (off := 43) (by decide) (by decide +kernel)) (
  zcons (zk_iconst (pc := 9) (z := 0) (by decide) (by decide +kernel)) (
  zcons (zk_istore_n (pc := 10) (j := 1) rfl (by decide +kernel)) (
  zcons (zk_iload_n (pc := 11) (j := 1) rfl (by decide +kernel)) (
  zcons (zk_sipush (pc := 12) (z := 414) (by decide) (by decide +kernel)) (
  zcons (zk_icge (pc := 15) (off := 24) (by decide) (by decide +kernel)) (
  zcons (zk_aload_n (pc := 18) (j := 0) rfl (by decide +kernel)) (
  zcons (zk_getr (pc := 19) (ci := 8) (j := 13) rfl zinX8 (by decide) zw_938 (by decide +kernel)) (
  zcons (zk_iload_n (pc := 22) (j := 1) rfl (by decide +kernel)) (
  zcons (zk_aload_n (pc := 23) (j := 0) rfl (by decide +kernel)) (
  zcons (zk_getr (pc := 24) (ci := 8) (j := 13) rfl zinX8 (by decide) zw_938 (by decide +kernel)) (
  zcons (zk_iload_n (pc := 27) (j := 1) rfl (by decide +kernel)) (
  zcons (zk_bipush (pc := 28) (z := 18) (by decide) (by decide +kernel)) (
  zcons (zk_iadd (pc := 30) (by decide +kernel)) (
  zcons (zk_iaload (pc := 31) (by decide +kernel)) (
  zcons (zk_iastore (pc := 32) (by decide +kernel)) (
  zcons (zk_iinc (pc := 33) (z := 1) (by decide) (by decide +kernel)) (
  zcons (zk_goto (pc := 36) (off := (-25)) (by decide) (by decide +kernel)) (
  zcons (zk_aload_n (pc := 39) (j := 0) rfl (by decide +kernel)) (
  zcons (zk_dup (pc := 40) (by decide +kernel)) (
  zcons (zk_get (pc := 41) (ci := 8) (j := 14) rfl zinX8 (by decide) zw_939 (by decide +kernel)) (
  zcons (zk_iconst (pc := 44) (z := 1) (by decide) (by decide +kernel)) (
  zcons (zk_isub (pc := 45) (by decide +kernel)) (
  zcons (zk_put (pc := 46) (ci := 8) (j := 14) rfl zinX8 (by decide) zw_939 tyX8 tyX8_ok nmX8 rfl (by decide +kernel) (by decide +kernel)) (
  zcons (zk_iconst (pc := 49) (z := 0) (by decide) (by decide +kernel)) (
  zcons (zk_istore_n (pc := 50) (j := 1) rfl (by decide +kernel)) (
  zcons (zk_iload_n (pc := 51) (j := 1) rfl (by decide +kernel)) (
  zcons (zk_bipush (pc := 52) (z := 18) (by decide) (by decide +kernel)) (
  zcons (zk_icge (pc := 54) (off := 32) (by decide) (by decide +kernel)) (
  zcons (zk_aload_n (pc := 57) (j := 0) rfl (by decide +kernel)) (
  zcons (zk_getr (pc := 58) (ci := 8) (j := 13) rfl zinX8 (by decide) zw_938 (by decide +kernel)) (
  zcons (zk_bipush (pc := 61) (z := 18) (by decide) (by decide +kernel)) (
  zcons (zk_aload_n (pc := 63) (j := 0) rfl (by decide +kernel)) (
  zcons (zk_get (pc := 64) (ci := 8) (j := 14) rfl zinX8 (by decide) zw_939 (by decide +kernel)) (
  zcons (zk_imul (pc := 67) (by decide +kernel)) (
  zcons (zk_iload_n (pc := 68) (j := 1) rfl (by decide +kernel)) (
  zcons (zk_iadd (pc := 69) (by decide +kernel)) (
  zcons (zk_aload_n (pc := 70) (j := 0) rfl (by decide +kernel)) (
  zcons (zk_getr (pc := 71) (ci := 8) (j := 10) rfl zinX8 (by decide) zw_935 (by decide +kernel)) (
  zcons (zk_bipush (pc := 74) (z := 23) (by decide) (by decide +kernel)) (
  zcons (zk_iload_n (pc := 76) (j := 1) rfl (by decide +kernel)) (
  zcons (zk_iadd (pc := 77) (by decide +kernel)) (
  zcons (zk_iaload (pc := 78) (by decide +kernel)) (
  zcons (zk_iastore (pc := 79) (by decide +kernel)) (
  zcons (zk_iinc (pc := 80) (z := 1) (by decide) (by decide +kernel)) (
  zcons (zk_goto (pc := 83) (off := (-32)) (by decide) (by decide +kernel)) (
  zcons (zk_aload_n (pc := 86) (j := 0) rfl (by decide +kernel)) (
  zcons (zk_dup (pc := 87) (by decide +kernel)) (
  zcons (zk_get (pc := 88) (ci := 8) (j := 14) rfl zinX8 (by decide) zw_939 (by decide +kernel)) (
  zcons (zk_iconst (pc := 91) (z := 1) (by decide) (by decide +kernel)) (
  zcons (zk_iadd (pc := 92) (by decide +kernel)) (
  zcons (zk_put (pc := 93) (ci := 8) (j := 14) rfl zinX8 (by decide) zw_939 tyX8 tyX8_ok nmX8 rfl (by decide +kernel) (by decide +kernel)) (
  zcons (zk_retv (pc := 96) rfl (by decide +kernel)) (znil))))))))))))))))))))))))))))))))))))))))))))))))))))))))
def tb_X8_undo : List (Nat × ZP) := [(0, zo_al 0 1), (1, zo_get 8 14 4), (4, zo_ifne 10 7), (7, zo_i (-1000002) 9), (9, zo_reti), (10, zo_al 0 11), (11, zo_dup 12), (12, zo_get 8 14 15), (15, zo_i 1 16), (16, zo_bin (· - ·) 17), (17, zo_put 8 14 20), (20, zo_i 0 21), (21, zo_is 1 22), (22, zo_il 1 23), (23, zo_i 18 25), (25, zo_icge 57 28), (28, zo_al 0 29), (29, zo_getr 8 10 32), (32, zo_i 23 34), (34, zo_il 1 35), (35, zo_bin (· + ·) 36), (36, zo_al 0 37), (37, zo_getr 8 13 40), (40, zo_i 18 42), (42, zo_al 0 43), (43, zo_get 8 14 46), (46, zo_bin (· * ·) 47), (47, zo_il 1 48), (48, zo_bin (· + ·) 49), (49, zo_iald 50), (50, zo_iast 51), (51, zo_inc 1 1 54), (54, zo_goto 22), (57, zo_al 0 58), (58, zo_get 8 14 61), (61, zo_reti)]
def cu_X8_undo : List (Nat × List Bool) := [(22, [true, true])]
set_option maxRecDepth 100000 in
set_option maxHeartbeats 4000000 in
theorem ok_X8_undo : ∀ e ∈ tb_X8_undo, ZOK zmt cX8_undo RX8 1 e.1 e.2 :=
  zcons (zk_aload_n (pc := 0) (j := 0) rfl (by decide +kernel)) (
  zcons (zk_get (pc := 1) (ci := 8) (j := 14) rfl zinX8 (by decide) zw_939 (by decide +kernel)) (
  zcons (zk_ifne (pc := 4) (off := 6) (by decide) (by decide +kernel)) (
  zcons (zk_ldc (pc := 7) zw_1087 (by decide +kernel)) (
  zcons (zk_reti (pc := 9) rfl (by decide +kernel)) (
  zcons (zk_aload_n (pc := 10) (j := 0) rfl (by decide +kernel)) (
  zcons (zk_dup (pc := 11) (by decide +kernel)) (
  zcons (zk_get (pc := 12) (ci := 8) (j := 14) rfl zinX8 (by decide) zw_939 (by decide +kernel)) (
  zcons (zk_iconst (pc := 15) (z := 1) (by decide) (by decide +kernel)) (
  zcons (zk_isub (pc := 16) (by decide +kernel)) (
  zcons (zk_put (pc := 17) (ci := 8) (j := 14) rfl zinX8 (by decide) zw_939 tyX8 tyX8_ok nmX8 rfl (by decide +kernel) (by decide +kernel)) (
  zcons (zk_iconst (pc := 20) (z := 0) (by decide) (by decide +kernel)) (
  zcons (zk_istore_n (pc := 21) (j := 1) rfl (by decide +kernel)) (
  zcons (zk_iload_n (pc := 22) (j := 1) rfl (by decide +kernel)) (
  zcons (zk_bipush (pc := 23) (z := 18) (by decide) (by decide +kernel)) (
  zcons (zk_icge (pc := 25) (off := 32) (by decide) (by decide +kernel)) (
  zcons (zk_aload_n (pc := 28) (j := 0) rfl (by decide +kernel)) (
  zcons (zk_getr (pc := 29) (ci := 8) (j := 10) rfl zinX8 (by decide) zw_935 (by decide +kernel)) (
  zcons (zk_bipush (pc := 32) (z := 23) (by decide) (by decide +kernel)) (
  zcons (zk_iload_n (pc := 34) (j := 1) rfl (by decide +kernel)) (
  zcons (zk_iadd (pc := 35) (by decide +kernel)) (
  zcons (zk_aload_n (pc := 36) (j := 0) rfl (by decide +kernel)) (
  zcons (zk_getr (pc := 37) (ci := 8) (j := 13) rfl zinX8 (by decide) zw_938 (by decide +kernel)) (
  zcons (zk_bipush (pc := 40) (z := 18) (by decide) (by decide +kernel)) (
  zcons (zk_aload_n (pc := 42) (j := 0) rfl (by decide +kernel)) (
  zcons (zk_get (pc := 43) (ci := 8) (j := 14) rfl zinX8 (by decide) zw_939 (by decide +kernel)) (
  zcons (zk_imul (pc := 46) (by decide +kernel)) (
  zcons (zk_iload_n (pc := 47) (j := 1) rfl (by decide +kernel)) (
  zcons (zk_iadd (pc := 48) (by decide +kernel)) (
  zcons (zk_iaload (pc := 49) (by decide +kernel)) (
  zcons (zk_iastore (pc := 50) (by decide +kernel)) (
  zcons (zk_iinc (pc := 51) (z := 1) (by decide) (by decide +kernel)) (
  zcons (zk_goto (pc := 54) (off := (-32)) (by decide) (by decide +kernel)) (
  zcons (zk_aload_n (pc := 57) (j := 0) rfl (by decide +kernel)) (
  zcons (zk_get (pc := 58) (ci := 8) (j := 14) rfl zinX8 (by decide) zw_939 (by decide +kernel)) (
  zcons (zk_reti (pc := 61) rfl (by decide +kernel)) (znil))))))))))))))))))))))))))))))))))))
def tb_X8_isCell : List (Nat × ZP) := [(0, zo_il 1 1), (1, zo_i 0 2), (2, zo_al 0 3), (3, zo_getr 8 10 6), (6, zo_i 0 7), (7, zo_iald 8), (8, zo_i 1 9), (9, zo_bin (· - ·) 10), (10, zo_csi 143 3 13), (13, zo_retz)]
def cu_X8_isCell : List (Nat × List Bool) := []
set_option maxRecDepth 100000 in
set_option maxHeartbeats 4000000 in
theorem ok_X8_isCell : ∀ e ∈ tb_X8_isCell, ZOK zmt cX8_isCell RX8 3 e.1 e.2 :=
  zcons (zk_iload_n (pc := 0) (j := 1) rfl (by decide +kernel)) (
  zcons (zk_iconst (pc := 1) (z := 0) (by decide) (by decide +kernel)) (
  zcons (zk_aload_n (pc := 2) (j := 0) rfl (by decide +kernel)) (
  zcons (zk_getr (pc := 3) (ci := 8) (j := 10) rfl zinX8 (by decide) zw_935 (by decide +kernel)) (
  zcons (zk_iconst (pc := 6) (z := 0) (by decide) (by decide +kernel)) (
  zcons (zk_iaload (pc := 7) (by decide +kernel)) (
  zcons (zk_iconst (pc := 8) (z := 1) (by decide) (by decide +kernel)) (
  zcons (zk_isub (pc := 9) (by decide +kernel)) (
  zcons (zk_csi (pc := 10) 143 rfl zw_1002 zw_1003 zds_X8_in (by decide) zw_1004 zw_9 (by decide +kernel)) (
  zcons (zk_retz (pc := 13) rfl (by decide +kernel)) (znil))))))))))
def tb_X8_isCustomer : List (Nat × ZP) := [(0, zo_il 1 1), (1, zo_i 0 2), (2, zo_al 0 3), (3, zo_getr 8 10 6), (6, zo_i 2 7), (7, zo_iald 8), (8, zo_i 1 9), (9, zo_bin (· - ·) 10), (10, zo_csi 143 3 13), (13, zo_retz)]
def cu_X8_isCustomer : List (Nat × List Bool) := []
set_option maxRecDepth 100000 in
set_option maxHeartbeats 4000000 in
theorem ok_X8_isCustomer : ∀ e ∈ tb_X8_isCustomer, ZOK zmt cX8_isCustomer RX8 3 e.1 e.2 :=
  zcons (zk_iload_n (pc := 0) (j := 1) rfl (by decide +kernel)) (
  zcons (zk_iconst (pc := 1) (z := 0) (by decide) (by decide +kernel)) (
  zcons (zk_aload_n (pc := 2) (j := 0) rfl (by decide +kernel)) (
  zcons (zk_getr (pc := 3) (ci := 8) (j := 10) rfl zinX8 (by decide) zw_935 (by decide +kernel)) (
  zcons (zk_iconst (pc := 6) (z := 2) (by decide) (by decide +kernel)) (
  zcons (zk_iaload (pc := 7) (by decide +kernel)) (
  zcons (zk_iconst (pc := 8) (z := 1) (by decide) (by decide +kernel)) (
  zcons (zk_isub (pc := 9) (by decide +kernel)) (
  zcons (zk_csi (pc := 10) 143 rfl zw_1002 zw_1003 zds_X8_in (by decide) zw_1004 zw_9 (by decide +kernel)) (
  zcons (zk_retz (pc := 13) rfl (by decide +kernel)) (znil))))))))))
def tb_X8_gone : List (Nat × ZP) := [(0, zo_al 0 1), (1, zo_getr 8 10 4), (4, zo_i 25 6), (6, zo_iald 7), (7, zo_is 1 8), (8, zo_i 0 9), (9, zo_is 2 10), (10, zo_il 2 11), (11, zo_i 5 12), (12, zo_icge 33 15), (15, zo_il 1 16), (16, zo_al 0 17), (17, zo_getr 8 10 20), (20, zo_i 26 22), (22, zo_il 2 23), (23, zo_bin (· + ·) 24), (24, zo_iald 25), (25, zo_bin (· ||| ·) 26), (26, zo_is 1 27), (27, zo_inc 2 1 30), (30, zo_goto 10), (33, zo_il 1 34), (34, zo_reti)]
def cu_X8_gone : List (Nat × List Bool) := [(10, [true, true, true])]
set_option maxRecDepth 100000 in
set_option maxHeartbeats 4000000 in
theorem ok_X8_gone : ∀ e ∈ tb_X8_gone, ZOK zmt cX8_gone RX8 1 e.1 e.2 :=
  zcons (zk_aload_n (pc := 0) (j := 0) rfl (by decide +kernel)) (
  zcons (zk_getr (pc := 1) (ci := 8) (j := 10) rfl zinX8 (by decide) zw_935 (by decide +kernel)) (
  zcons (zk_bipush (pc := 4) (z := 25) (by decide) (by decide +kernel)) (
  zcons (zk_iaload (pc := 6) (by decide +kernel)) (
  zcons (zk_istore_n (pc := 7) (j := 1) rfl (by decide +kernel)) (
  zcons (zk_iconst (pc := 8) (z := 0) (by decide) (by decide +kernel)) (
  zcons (zk_istore_n (pc := 9) (j := 2) rfl (by decide +kernel)) (
  zcons (zk_iload_n (pc := 10) (j := 2) rfl (by decide +kernel)) (
  zcons (zk_iconst (pc := 11) (z := 5) (by decide) (by decide +kernel)) (
  zcons (zk_icge (pc := 12) (off := 21) (by decide) (by decide +kernel)) (
  zcons (zk_iload_n (pc := 15) (j := 1) rfl (by decide +kernel)) (
  zcons (zk_aload_n (pc := 16) (j := 0) rfl (by decide +kernel)) (
  zcons (zk_getr (pc := 17) (ci := 8) (j := 10) rfl zinX8 (by decide) zw_935 (by decide +kernel)) (
  zcons (zk_bipush (pc := 20) (z := 26) (by decide) (by decide +kernel)) (
  zcons (zk_iload_n (pc := 22) (j := 2) rfl (by decide +kernel)) (
  zcons (zk_iadd (pc := 23) (by decide +kernel)) (
  zcons (zk_iaload (pc := 24) (by decide +kernel)) (
  zcons (zk_ior (pc := 25) (by decide +kernel)) (
  zcons (zk_istore_n (pc := 26) (j := 1) rfl (by decide +kernel)) (
  zcons (zk_iinc (pc := 27) (z := 1) (by decide) (by decide +kernel)) (
  zcons (zk_goto (pc := 30) (off := (-20)) (by decide) (by decide +kernel)) (
  zcons (zk_iload_n (pc := 33) (j := 1) rfl (by decide +kernel)) (
  zcons (zk_reti (pc := 34) rfl (by decide +kernel)) (znil)))))))))))))))))))))))
def tb_X8_on : List (Nat × ZP) := [(0, zo_i 1 1), (1, zo_al 0 2), (2, zo_getr 8 10 5), (5, zo_i 0 6), (6, zo_iald 7), (7, zo_bin zshl 8), (8, zo_i 1 9), (9, zo_bin (· - ·) 10), (10, zo_al 0 11), (11, zo_cvi 8 171 0 14), (14, zo_i (-1) 15), (15, zo_bin (· ^^^ ·) 16), (16, zo_bin (· &&& ·) 17), (17, zo_reti)]
def cu_X8_on : List (Nat × List Bool) := []
set_option maxRecDepth 100000 in
set_option maxHeartbeats 4000000 in
theorem ok_X8_on : ∀ e ∈ tb_X8_on, ZOK zmt cX8_on RX8 1 e.1 e.2 :=
  zcons (zk_iconst (pc := 0) (z := 1) (by decide) (by decide +kernel)) (
  zcons (zk_aload_n (pc := 1) (j := 0) rfl (by decide +kernel)) (
  zcons (zk_getr (pc := 2) (ci := 8) (j := 10) rfl zinX8 (by decide) zw_935 (by decide +kernel)) (
  zcons (zk_iconst (pc := 5) (z := 0) (by decide) (by decide +kernel)) (
  zcons (zk_iaload (pc := 6) (by decide +kernel)) (
  zcons (zk_ishl (pc := 7) (by decide +kernel)) (
  zcons (zk_iconst (pc := 8) (z := 1) (by decide) (by decide +kernel)) (
  zcons (zk_isub (pc := 9) (by decide +kernel)) (
  zcons (zk_aload_n (pc := 10) (j := 0) rfl (by decide +kernel)) (
  zcons (zk_cvi (pc := 11) 171 rfl (ci := 8) rfl zw_1104 zw_1106 zsel_X8_gone zds_X8_gone (by decide) zw_1107 zw_9 (by decide +kernel)) (
  zcons (zk_iconst (pc := 14) (z := (-1)) (by decide) (by decide +kernel)) (
  zcons (zk_ixor (pc := 15) (by decide +kernel)) (
  zcons (zk_iand (pc := 16) (by decide +kernel)) (
  zcons (zk_reti (pc := 17) rfl (by decide +kernel)) (znil))))))))))))))
def tb_X8_servedNow : List (Nat × ZP) := [(0, zo_i 0 1), (1, zo_is 1 2), (2, zo_i 0 3), (3, zo_is 2 4), (4, zo_il 2 5), (5, zo_i 5 6), (6, zo_icge 37 9), (9, zo_il 1 10), (10, zo_al 0 11), (11, zo_getr 8 10 14), (14, zo_i 26 16), (16, zo_il 2 17), (17, zo_bin (· + ·) 18), (18, zo_iald 19), (19, zo_ifle 28 22), (22, zo_i 1 23), (23, zo_il 2 24), (24, zo_bin zshl 25), (25, zo_goto 29), (28, zo_i 0 29), (29, zo_bin (· ||| ·) 30), (30, zo_is 1 31), (31, zo_inc 2 1 34), (34, zo_goto 4), (37, zo_il 1 38), (38, zo_reti)]
def cu_X8_servedNow : List (Nat × List Bool) := [(4, [true, true, true])]
set_option maxRecDepth 100000 in
set_option maxHeartbeats 4000000 in
theorem ok_X8_servedNow : ∀ e ∈ tb_X8_servedNow, ZOK zmt cX8_servedNow RX8 1 e.1 e.2 :=
  zcons (zk_iconst (pc := 0) (z := 0) (by decide) (by decide +kernel)) (
  zcons (zk_istore_n (pc := 1) (j := 1) rfl (by decide +kernel)) (
  zcons (zk_iconst (pc := 2) (z := 0) (by decide) (by decide +kernel)) (
  zcons (zk_istore_n (pc := 3) (j := 2) rfl (by decide +kernel)) (
  zcons (zk_iload_n (pc := 4) (j := 2) rfl (by decide +kernel)) (
  zcons (zk_iconst (pc := 5) (z := 5) (by decide) (by decide +kernel)) (
  zcons (zk_icge (pc := 6) (off := 31) (by decide) (by decide +kernel)) (
  zcons (zk_iload_n (pc := 9) (j := 1) rfl (by decide +kernel)) (
  zcons (zk_aload_n (pc := 10) (j := 0) rfl (by decide +kernel)) (
  zcons (zk_getr (pc := 11) (ci := 8) (j := 10) rfl zinX8 (by decide) zw_935 (by decide +kernel)) (
  zcons (zk_bipush (pc := 14) (z := 26) (by decide) (by decide +kernel)) (
  zcons (zk_iload_n (pc := 16) (j := 2) rfl (by decide +kernel)) (
  zcons (zk_iadd (pc := 17) (by decide +kernel)) (
  zcons (zk_iaload (pc := 18) (by decide +kernel)) (
  zcons (zk_ifle (pc := 19) (off := 9) (by decide) (by decide +kernel)) (
  zcons (zk_iconst (pc := 22) (z := 1) (by decide) (by decide +kernel)) (
  zcons (zk_iload_n (pc := 23) (j := 2) rfl (by decide +kernel)) (
  zcons (zk_ishl (pc := 24) (by decide +kernel)) (
  zcons (zk_goto (pc := 25) (off := 4) (by decide) (by decide +kernel)) (
  zcons (zk_iconst (pc := 28) (z := 0) (by decide) (by decide +kernel)) (
  zcons (zk_ior (pc := 29) (by decide +kernel)) (
  zcons (zk_istore_n (pc := 30) (j := 1) rfl (by decide +kernel)) (
  zcons (zk_iinc (pc := 31) (z := 1) (by decide) (by decide +kernel)) (
  zcons (zk_goto (pc := 34) (off := (-30)) (by decide) (by decide +kernel)) (
  zcons (zk_iload_n (pc := 37) (j := 1) rfl (by decide +kernel)) (
  zcons (zk_reti (pc := 38) rfl (by decide +kernel)) (znil))))))))))))))))))))))))))

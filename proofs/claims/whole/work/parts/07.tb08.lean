def tb_X8_isSo : List (Nat × ZP) := [(0, zo_i 0 1), (1, zo_is 6 3), (3, zo_i 1 4), (4, zo_is 7 6), (6, zo_i 0 7), (7, zo_is 8 9), (9, zo_il 8 11), (11, zo_il 5 13), (13, zo_icge 79 16), (16, zo_il 6 18), (18, zo_i 1 19), (19, zo_al 0 20), (20, zo_getr 8 2 23), (23, zo_i 40 25), (25, zo_il 1 26), (26, zo_bin (· * ·) 27), (27, zo_il 2 28), (28, zo_bin (· + ·) 29), (29, zo_il 8 31), (31, zo_bin (· + ·) 32), (32, zo_iald 33), (33, zo_bin zshl 34), (34, zo_bin (· ||| ·) 35), (35, zo_is 6 37), (37, zo_il 7 39), (39, zo_ifeq 70 42), (42, zo_al 0 43), (43, zo_il 6 45), (45, zo_cvi 8 178 1 48), (48, zo_al 0 49), (49, zo_getr 8 2 52), (52, zo_i 40 54), (54, zo_il 3 55), (55, zo_bin (· * ·) 56), (56, zo_il 4 58), (58, zo_bin (· + ·) 59), (59, zo_il 8 61), (61, zo_bin (· + ·) 62), (62, zo_iald 63), (63, zo_icne 70 66), (66, zo_i 1 67), (67, zo_goto 71), (70, zo_i 0 71), (71, zo_is 7 73), (73, zo_inc 8 1 76), (76, zo_goto 9), (79, zo_il 7 81), (81, zo_retz)]
def cu_X8_isSo : List (Nat × List Bool) := [(9, [true, true, true, true, true, true, true, true, true])]
set_option maxRecDepth 100000 in
set_option maxHeartbeats 4000000 in
theorem ok_X8_isSo : ∀ e ∈ tb_X8_isSo, ZOK zmt cX8_isSo RX8 3 e.1 e.2 :=
  zcons (zk_iconst (pc := 0) (z := 0) (by decide) (by decide +kernel)) (
  zcons (zk_istore (pc := 1) (by decide +kernel)) (
  zcons (zk_iconst (pc := 3) (z := 1) (by decide) (by decide +kernel)) (
  zcons (zk_istore (pc := 4) (by decide +kernel)) (
  zcons (zk_iconst (pc := 6) (z := 0) (by decide) (by decide +kernel)) (
  zcons (zk_istore (pc := 7) (by decide +kernel)) (
  zcons (zk_iload (pc := 9) (by decide +kernel)) (
  zcons (zk_iload (pc := 11) (by decide +kernel)) (
  zcons (zk_icge (pc := 13) (off := 66) (by decide) (by decide +kernel)) (
  zcons (zk_iload (pc := 16) (by decide +kernel)) (
  zcons (zk_iconst (pc := 18) (z := 1) (by decide) (by decide +kernel)) (
  zcons (zk_aload_n (pc := 19) (j := 0) rfl (by decide +kernel)) (
  zcons (zk_getr (pc := 20) (ci := 8) (j := 2) rfl zinX8 (by decide) zw_927 (by decide +kernel)) (
  zcons (zk_bipush (pc := 23) (z := 40) (by decide) (by decide +kernel)) (
  zcons (zk_iload_n (pc := 25) (j := 1) rfl (by decide +kernel)) (
  zcons (zk_imul (pc := 26) (by decide +kernel)) (
  zcons (zk_iload_n (pc := 27) (j := 2) rfl (by decide +kernel)) (
  zcons (zk_iadd (pc := 28) (by decide +kernel)) (
  zcons (zk_iload (pc := 29) (by decide +kernel)) (
  zcons (zk_iadd (pc := 31) (by decide +kernel)) (
  zcons (zk_iaload (pc := 32) (by decide +kernel)) (
  zcons (zk_ishl (pc := 33) (by decide +kernel)) (
  zcons (zk_ior (pc := 34) (by decide +kernel)) (
  zcons (zk_istore (pc := 35) (by decide +kernel)) (
  zcons (zk_iload (pc := 37) (by decide +kernel)) (
  zcons (zk_ifeq (pc := 39) (off := 31) (by decide) (by decide +kernel)) (
  zcons (zk_aload_n (pc := 42) (j := 0) rfl (by decide +kernel)) (
  zcons (zk_iload (pc := 43) (by decide +kernel)) (
  zcons (zk_cvi (pc := 45) 178 rfl (ci := 8) rfl zw_1122 zw_1124 zsel_X8_pays zds_X8_pays (by decide) zw_1125 zw_9 (by decide +kernel)) (
  zcons (zk_aload_n (pc := 48) (j := 0) rfl (by decide +kernel)) (
  zcons (zk_getr (pc := 49) (ci := 8) (j := 2) rfl zinX8 (by decide) zw_927 (by decide +kernel)) (
  zcons (zk_bipush (pc := 52) (z := 40) (by decide) (by decide +kernel)) (
  zcons (zk_iload_n (pc := 54) (j := 3) rfl (by decide +kernel)) (
  zcons (zk_imul (pc := 55) (by decide +kernel)) (
  zcons (zk_iload (pc := 56) (by decide +kernel)) (
  zcons (zk_iadd (pc := 58) (by decide +kernel)) (
  zcons (zk_iload (pc := 59) (by decide +kernel)) (
  zcons (zk_iadd (pc := 61) (by decide +kernel)) (
  zcons (zk_iaload (pc := 62) (by decide +kernel)) (
  zcons (zk_icne (pc := 63) (off := 7) (by decide) (by decide +kernel)) (
  zcons (zk_iconst (pc := 66) (z := 1) (by decide) (by decide +kernel)) (
  zcons (zk_goto (pc := 67) (off := 4) (by decide) (by decide +kernel)) (
  zcons (zk_iconst (pc := 70) (z := 0) (by decide) (by decide +kernel)) (
  zcons (zk_istore (pc := 71) (by decide +kernel)) (
  zcons (zk_iinc (pc := 73) (z := 1) (by decide) (by decide +kernel)) (
  zcons (zk_goto (pc := 76) (off := (-67)) (by decide) (by decide +kernel)) (
  zcons (zk_iload (pc := 79) (by decide +kernel)) (
  zcons (zk_retz (pc := 81) rfl (by decide +kernel)) (znil))))))))))))))))))))))))))))))))))))))))))))))))
def tb_X8_who : List (Nat × ZP) := [(0, zo_al 0 1), (1, zo_il 1 2), (2, zo_cvi 8 169 1 5), (5, zo_ifeq 43 8), (8, zo_il 2 9), (9, zo_i 0 10), (10, zo_i 1 11), (11, zo_csi 143 3 14), (14, zo_ifeq 43 17), (17, zo_il 3 18), (18, zo_csi 146 1 21), (21, zo_ifeq 43 24), (24, zo_il 5 26), (26, zo_csi 146 1 29), (29, zo_ifeq 43 32), (32, zo_il 7 34), (34, zo_i 1 35), (35, zo_i 10 37), (37, zo_csi 143 3 40), (40, zo_ifne 46 43), (43, zo_i (-1000001) 45), (45, zo_reti), (46, zo_al 0 47), (47, zo_il 3 48), (48, zo_il 4 50), (50, zo_il 5 52), (52, zo_il 6 54), (54, zo_il 7 56), (56, zo_cvi 8 212 5 59), (59, zo_is 8 61), (61, zo_il 8 63), (63, zo_ifle 73 66), (66, zo_al 0 67), (67, zo_il 8 69), (69, zo_cvi 8 147 1 72), (72, zo_reti), (73, zo_al 0 74), (74, zo_i 0 75), (75, zo_put 8 4 78), (78, zo_il 2 79), (79, zo_ifne 86 82), (82, zo_i 3 83), (83, zo_goto 88), (86, zo_i 31 88), (88, zo_il 1 89), (89, zo_bin (· + ·) 90), (90, zo_is 9 92), (92, zo_al 0 93), (93, zo_getr 8 10 96), (96, zo_il 9 98), (98, zo_iald 99), (99, zo_is 10 101), (101, zo_i 0 102), (102, zo_is 11 104), (104, zo_il 2 105), (105, zo_ifne 112 108), (108, zo_i 1 109), (109, zo_goto 113), (112, zo_i 0 113), (113, zo_is 12 115), (115, zo_il 12 117), (117, zo_il 2 118), (118, zo_ifne 126 121), (121, zo_i 6 123), (123, zo_goto 128), (126, zo_i 10 128), (128, zo_icge 175 131), (131, zo_al 0 132), (132, zo_getr 8 10 135), (135, zo_il 9 137), (137, zo_il 12 139), (139, zo_iast 140), (140, zo_il 11 142), (142, zo_al 0 143), (143, zo_il 3 144), (144, zo_il 4 146), (146, zo_il 5 148), (148, zo_il 6 150), (150, zo_il 7 152), (152, zo_cvi 8 213 5 155), (155, zo_ifeq 165 158), (158, zo_i 1 159), (159, zo_il 12 161), (161, zo_bin zshl 162), (162, zo_goto 166), (165, zo_i 0 166), (166, zo_bin (· ||| ·) 167), (167, zo_is 11 169), (169, zo_inc 12 1 172), (172, zo_goto 115), (175, zo_al 0 176), (176, zo_getr 8 10 179), (179, zo_il 9 181), (181, zo_il 10 183), (183, zo_iast 184), (184, zo_il 11 186), (186, zo_reti)]
def cu_X8_who : List (Nat × List Bool) := [(115, [true, false, true, true, true, true, true, true, false, true, true, true, true])]
set_option maxRecDepth 100000 in
set_option maxHeartbeats 4000000 in
theorem ok_X8_who : ∀ e ∈ tb_X8_who, ZOK zmt cX8_who RX8 1 e.1 e.2 :=
  zcons (zk_aload_n (pc := 0) (j := 0) rfl (by decide +kernel)) (
  zcons (zk_iload_n (pc := 1) (j := 1) rfl (by decide +kernel)) (
  zcons (zk_cvi (pc := 2) 169 rfl (ci := 8) rfl zw_1149 zw_1151 zsel_X8_isCell zds_X8_isCell (by decide) zw_1152 zw_9 (by decide +kernel)) (
  zcons (zk_ifeq (pc := 5) (off := 38) (by decide) (by decide +kernel)) (
  zcons (zk_iload_n (pc := 8) (j := 2) rfl (by decide +kernel)) (
  zcons (zk_iconst (pc := 9) (z := 0) (by decide) (by decide +kernel)) (
  zcons (zk_iconst (pc := 10) (z := 1) (by decide) (by decide +kernel)) (
  zcons (zk_csi (pc := 11) 143 rfl zw_1002 zw_1003 zds_X8_in (by decide) zw_1004 zw_9 (by decide +kernel)) (
  zcons (zk_ifeq (pc := 14) (off := 29) (by decide) (by decide +kernel)) (
  zcons (zk_iload_n (pc := 17) (j := 3) rfl (by decide +kernel)) (
  zcons (zk_csi (pc := 18) 146 rfl zw_999 zw_1000 zds_X8_isRow (by decide) zw_1001 zw_9 (by decide +kernel)) (
  zcons (zk_ifeq (pc := 21) (off := 22) (by decide) (by decide +kernel)) (
  zcons (zk_iload (pc := 24) (by decide +kernel)) (
  zcons (zk_csi (pc := 26) 146 rfl zw_999 zw_1000 zds_X8_isRow (by decide) zw_1001 zw_9 (by decide +kernel)) (
  zcons (zk_ifeq (pc := 29) (off := 14) (by decide) (by decide +kernel)) (
  zcons (zk_iload (pc := 32) (by decide +kernel)) (
  zcons (zk_iconst (pc := 34) (z := 1) (by decide) (by decide +kernel)) (
  zcons (zk_bipush (pc := 35) (z := 10) (by decide) (by decide +kernel)) (
  zcons (zk_csi (pc := 37) 143 rfl zw_1002 zw_1003 zds_X8_in (by decide) zw_1004 zw_9 (by decide +kernel)) (
  zcons (zk_ifne (pc := 40) (off := 6) (by decide) (by decide +kernel)) (
  zcons (zk_ldc (pc := 43) zw_1005 (by decide +kernel)) (
  zcons (zk_reti (pc := 45) rfl (by decide +kernel)) (
  zcons (zk_aload_n (pc := 46) (j := 0) rfl (by decide +kernel)) (
  zcons (zk_iload_n (pc := 47) (j := 3) rfl (by decide +kernel)) (
  zcons (zk_iload (pc := 48) (by decide +kernel)) (
  zcons (zk_iload (pc := 50) (by decide +kernel)) (
  zcons (zk_iload (pc := 52) (by decide +kernel)) (
  zcons (zk_iload (pc := 54) (by decide +kernel)) (
  zcons (zk_cvi (pc := 56) 212 rfl (ci := 8) rfl zw_1275 zw_1277 zsel_X8_findingOf zds_X8_findingOf (by decide) zw_1278 zw_9 (by decide +kernel)) (
  zcons (zk_istore (pc := 59) (by decide +kernel)) (
  zcons (zk_iload (pc := 61) (by decide +kernel)) (
  zcons (zk_ifle (pc := 63) (off := 10) (by decide) (by decide +kernel)) (
  zcons (zk_aload_n (pc := 66) (j := 0) rfl (by decide +kernel)) (
  zcons (zk_iload (pc := 67) (by decide +kernel)) (
  zcons (zk_cvi (pc := 69) 147 rfl (ci := 8) rfl zw_1006 zw_1008 zsel_X8_finds zds_X8_finds (by decide) zw_1009 zw_9 (by decide +kernel)) (
  zcons (zk_reti (pc := 72) rfl (by decide +kernel)) (
  zcons (zk_aload_n (pc := 73) (j := 0) rfl (by decide +kernel)) (
  zcons (zk_iconst (pc := 74) (z := 0) (by decide) (by decide +kernel)) (
  zcons (zk_put (pc := 75) (ci := 8) (j := 4) rfl zinX8 (by decide) zw_929 tyX8 tyX8_ok nmX8 rfl (by decide +kernel) (by decide +kernel)) (
  zcons (zk_iload_n (pc := 78) (j := 2) rfl (by decide +kernel)) (
  zcons (zk_ifne (pc := 79) (off := 7) (by decide) (by decide +kernel)) (
  zcons (zk_iconst (pc := 82) (z := 3) (by decide) (by decide +kernel)) (
  zcons (zk_goto (pc := 83) (off := 5) (by decide) (by decide +kernel)) (
  zcons (zk_bipush (pc := 86) (z := 31) (by decide) (by decide +kernel)) (
  zcons (zk_iload_n (pc := 88) (j := 1) rfl (by decide +kernel)) (
  zcons (zk_iadd (pc := 89) (by decide +kernel)) (
  zcons (zk_istore (pc := 90) (by decide +kernel)) (
  zcons (zk_aload_n (pc := 92) (j := 0) rfl (by decide +kernel)) (
  zcons (zk_getr (pc := 93) (ci := 8) (j := 10) rfl zinX8 (by decide) zw_935 (by decide +kernel)) (
  zcons (zk_iload (pc := 96) (by decide +kernel)) (
  zcons (zk_iaload (pc := 98) (by decide +kernel)) (
  zcons (zk_istore (pc := 99) (by decide +kernel)) (
  zcons (zk_iconst (pc := 101) (z := 0) (by decide) (by decide +kernel)) (
  zcons (zk_istore (pc := 102) (by decide +kernel)) (
  zcons (zk_iload_n (pc := 104) (j := 2) rfl (by decide +kernel)) (
  zcons (zk_ifne (pc := 105) (off := 7) (by decide) (by decide +kernel)) (
  zcons (zk_iconst (pc := 108) (z := 1) (by decide) (by decide +kernel)) (
  zcons (zk_goto (pc := 109) (off := 4) (by decide) (by decide +kernel)) (
  zcons (zk_iconst (pc := 112) (z := 0) (by decide) (by decide +kernel)) (
  zcons (zk_istore (pc := 113) (by decide +kernel)) (
  zcons (zk_iload (pc := 115) (by decide +kernel)) (
  zcons (zk_iload_n (pc := 117) (j := 2) rfl (by decide +kernel)) (
  zcons (zk_ifne (pc := 118) (off := 8) (by decide) (by decide +kernel)) (
  zcons (zk_bipush (pc := 121) (z := 6) (by decide) (by decide +kernel)) (
  zcons (zk_goto (pc := 123) (off := 5) (by decide) (by decide +kernel)) (
  zcons (zk_bipush (pc := 126) (z := 10) (by decide) (by decide +kernel)) (
  zcons (zk_icge (pc := 128) (off := 47) (by decide) (by decide +kernel)) (
  zcons (zk_aload_n (pc := 131) (j := 0) rfl (by decide +kernel)) (
  zcons (zk_getr (pc := 132) (ci := 8) (j := 10) rfl zinX8 (by decide) zw_935 (by decide +kernel)) (
  zcons (zk_iload (pc := 135) (by decide +kernel)) (
  zcons (zk_iload (pc := 137) (by decide +kernel)) (
  zcons (zk_iastore (pc := 139) (by decide +kernel)) (
  zcons (zk_iload (pc := 140) (by decide +kernel)) (
  zcons (zk_aload_n (pc := 142) (j := 0) rfl (by decide +kernel)) (
  zcons (zk_iload_n (pc := 143) (j := 3) rfl (by decide +kernel)) (
  zcons (zk_iload (pc := 144) (by decide +kernel)) (
  zcons (zk_iload (pc := 146) (by decide +kernel)) (
  zcons (zk_iload (pc := 148) (by decide +kernel)) (
  zcons (zk_iload (pc := 150) (by decide +kernel)) (
  zcons (zk_cvi (pc := 152) 213 rfl (ci := 8) rfl zw_1279 zw_1281 zsel_X8_isSo zds_X8_isSo (by decide) zw_1282 zw_9 (by decide +kernel)) (
  zcons (zk_ifeq (pc := 155) (off := 10) (by decide) (by decide +kernel)) (
  zcons (zk_iconst (pc := 158) (z := 1) (by decide) (by decide +kernel)) (
  zcons (zk_iload (pc := 159) (by decide +kernel)) (
  zcons (zk_ishl (pc := 161) (by decide +kernel)) (
  zcons (zk_goto (pc := 162) (off := 4) (by decide) (by decide +kernel)) (
  zcons (zk_iconst (pc := 165) (z := 0) (by decide) (by decide +kernel)) (
  zcons (zk_ior (pc := 166) (by decide +kernel)) (
  zcons (zk_istore (pc := 167) (by decide +kernel)) (
  zcons (zk_iinc (pc := 169) (z := 1) (by decide) (by decide +kernel)) (
  zcons (zk_goto (pc := 172) (off := (-57)) (by decide) (by decide +kernel)) (
  zcons (zk_aload_n (pc := 175) (j := 0) rfl (by decide +kernel)) (
  zcons (zk_getr (pc := 176) (ci := 8) (j := 10) rfl zinX8 (by decide) zw_935 (by decide +kernel)) (
  zcons (zk_iload (pc := 179) (by decide +kernel)) (
  zcons (zk_iload (pc := 181) (by decide +kernel)) (
  zcons (zk_iastore (pc := 183) (by decide +kernel)) (
  zcons (zk_iload (pc := 184) (by decide +kernel)) (
  zcons (zk_reti (pc := 186) rfl (by decide +kernel)) (znil)))))))))))))))))))))))))))))))))))))))))))))))))))))))))))))))))))))))))))))))))))))))))))))))))
def tb_X8_swaps : List (Nat × ZP) := [(0, zo_al 0 1), (1, zo_getr 8 10 4), (4, zo_i 3 5), (5, zo_il 1 6), (6, zo_bin (· + ·) 7), (7, zo_iald 8), (8, zo_is 3 9), (9, zo_al 0 10), (10, zo_getr 8 10 13), (13, zo_i 31 15), (15, zo_il 1 16), (16, zo_bin (· + ·) 17), (17, zo_iald 18), (18, zo_is 4 20), (20, zo_al 0 21), (21, zo_getr 8 10 24), (24, zo_i 3 25), (25, zo_il 1 26), (26, zo_bin (· + ·) 27), (27, zo_al 0 28), (28, zo_getr 8 10 31), (31, zo_i 3 32), (32, zo_il 2 33), (33, zo_bin (· + ·) 34), (34, zo_iald 35), (35, zo_iast 36), (36, zo_al 0 37), (37, zo_getr 8 10 40), (40, zo_i 31 42), (42, zo_il 1 43), (43, zo_bin (· + ·) 44), (44, zo_al 0 45), (45, zo_getr 8 10 48), (48, zo_i 31 50), (50, zo_il 2 51), (51, zo_bin (· + ·) 52), (52, zo_iald 53), (53, zo_iast 54), (54, zo_al 0 55), (55, zo_getr 8 10 58), (58, zo_i 3 59), (59, zo_il 2 60), (60, zo_bin (· + ·) 61), (61, zo_il 3 62), (62, zo_iast 63), (63, zo_al 0 64), (64, zo_getr 8 10 67), (67, zo_i 31 69), (69, zo_il 2 70), (70, zo_bin (· + ·) 71), (71, zo_il 4 73), (73, zo_iast 74), (74, zo_retv)]
def cu_X8_swaps : List (Nat × List Bool) := []
set_option maxRecDepth 100000 in
set_option maxHeartbeats 4000000 in
theorem ok_X8_swaps : ∀ e ∈ tb_X8_swaps, ZOK zmt cX8_swaps RX8 0 e.1 e.2 :=
  zcons (zk_aload_n (pc := 0) (j := 0) rfl (by decide +kernel)) (
  zcons (zk_getr (pc := 1) (ci := 8) (j := 10) rfl zinX8 (by decide) zw_935 (by decide +kernel)) (
  zcons (zk_iconst (pc := 4) (z := 3) (by decide) (by decide +kernel)) (
  zcons (zk_iload_n (pc := 5) (j := 1) rfl (by decide +kernel)) (
  zcons (zk_iadd (pc := 6) (by decide +kernel)) (
  zcons (zk_iaload (pc := 7) (by decide +kernel)) (
  zcons (zk_istore_n (pc := 8) (j := 3) rfl (by decide +kernel)) (
  zcons (zk_aload_n (pc := 9) (j := 0) rfl (by decide +kernel)) (
  zcons (zk_getr (pc := 10) (ci := 8) (j := 10) rfl zinX8 (by decide) zw_935 (by decide +kernel)) (
  zcons (zk_bipush (pc := 13) (z := 31) (by decide) (by decide +kernel)) (
  zcons (zk_iload_n (pc := 15) (j := 1) rfl (by decide +kernel)) (
  zcons (zk_iadd (pc := 16) (by decide +kernel)) (
  zcons (zk_iaload (pc := 17) (by decide +kernel)) (
  zcons (zk_istore (pc := 18) (by decide +kernel)) (
  zcons (zk_aload_n (pc := 20) (j := 0) rfl (by decide +kernel)) (
  zcons (zk_getr (pc := 21) (ci := 8) (j := 10) rfl zinX8 (by decide) zw_935 (by decide +kernel)) (
  zcons (zk_iconst (pc := 24) (z := 3) (by decide) (by decide +kernel)) (
  zcons (zk_iload_n (pc := 25) (j := 1) rfl (by decide +kernel)) (
  zcons (zk_iadd (pc := 26) (by decide +kernel)) (
  zcons (zk_aload_n (pc := 27) (j := 0) rfl (by decide +kernel)) (
  zcons (zk_getr (pc := 28) (ci := 8) (j := 10) rfl zinX8 (by decide) zw_935 (by decide +kernel)) (
  zcons (zk_iconst (pc := 31) (z := 3) (by decide) (by decide +kernel)) (
  zcons (zk_iload_n (pc := 32) (j := 2) rfl (by decide +kernel)) (
  zcons (zk_iadd (pc := 33) (by decide +kernel)) (
  zcons (zk_iaload (pc := 34) (by decide +kernel)) (
  zcons (zk_iastore (pc := 35) (by decide +kernel)) (
  zcons (zk_aload_n (pc := 36) (j := 0) rfl (by decide +kernel)) (
  zcons (zk_getr (pc := 37) (ci := 8) (j := 10) rfl zinX8 (by decide) zw_935 (by decide +kernel)) (
  zcons (zk_bipush (pc := 40) (z := 31) (by decide) (by decide +kernel)) (
  zcons (zk_iload_n (pc := 42) (j := 1) rfl (by decide +kernel)) (
  zcons (zk_iadd (pc := 43) (by decide +kernel)) (
  zcons (zk_aload_n (pc := 44) (j := 0) rfl (by decide +kernel)) (
  zcons (zk_getr (pc := 45) (ci := 8) (j := 10) rfl zinX8 (by decide) zw_935 (by decide +kernel)) (
  zcons (zk_bipush (pc := 48) (z := 31) (by decide) (by decide +kernel)) (
  zcons (zk_iload_n (pc := 50) (j := 2) rfl (by decide +kernel)) (
  zcons (zk_iadd (pc := 51) (by decide +kernel)) (
  zcons (zk_iaload (pc := 52) (by decide +kernel)) (
  zcons (zk_iastore (pc := 53) (by decide +kernel)) (
  zcons (zk_aload_n (pc := 54) (j := 0) rfl (by decide +kernel)) (
  zcons (zk_getr (pc := 55) (ci := 8) (j := 10) rfl zinX8 (by decide) zw_935 (by decide +kernel)) (
  zcons (zk_iconst (pc := 58) (z := 3) (by decide) (by decide +kernel)) (
  zcons (zk_iload_n (pc := 59) (j := 2) rfl (by decide +kernel)) (
  zcons (zk_iadd (pc := 60) (by decide +kernel)) (
  zcons (zk_iload_n (pc := 61) (j := 3) rfl (by decide +kernel)) (
  zcons (zk_iastore (pc := 62) (by decide +kernel)) (
  zcons (zk_aload_n (pc := 63) (j := 0) rfl (by decide +kernel)) (
  zcons (zk_getr (pc := 64) (ci := 8) (j := 10) rfl zinX8 (by decide) zw_935 (by decide +kernel)) (
  zcons (zk_bipush (pc := 67) (z := 31) (by decide) (by decide +kernel)) (
  zcons (zk_iload_n (pc := 69) (j := 2) rfl (by decide +kernel)) (
  zcons (zk_iadd (pc := 70) (by decide +kernel)) (
  zcons (zk_iload (pc := 71) (by decide +kernel)) (
  zcons (zk_iastore (pc := 73) (by decide +kernel)) (
  zcons (zk_retv (pc := 74) rfl (by decide +kernel)) (znil)))))))))))))))))))))))))))))))))))))))))))))))))))))
def tb_X8_fits : List (Nat × ZP) := [(0, zo_al 0 1), (1, zo_getr 8 10 4), (4, zo_i 0 5), (5, zo_iald 6), (6, zo_ifne 12 9), (9, zo_i (-1000002) 11), (11, zo_reti), (12, zo_il 1 13), (13, zo_i 0 14), (14, zo_i 2 15), (15, zo_csi 143 3 18), (18, zo_ifeq 47 21), (21, zo_il 2 22), (22, zo_csi 146 1 25), (25, zo_ifeq 47 28), (28, zo_il 4 30), (30, zo_csi 146 1 33), (33, zo_ifeq 47 36), (36, zo_il 6 38), (38, zo_i 1 39), (39, zo_i 10 41), (41, zo_csi 143 3 44), (44, zo_ifne 50 47), (47, zo_i (-1000001) 49), (49, zo_reti), (50, zo_al 0 51), (51, zo_il 2 52), (52, zo_il 3 53), (53, zo_il 4 55), (55, zo_il 5 57), (57, zo_il 6 59), (59, zo_cvi 8 212 5 62), (62, zo_is 7 64), (64, zo_il 7 66), (66, zo_ifle 76 69), (69, zo_al 0 70), (70, zo_il 7 72), (72, zo_cvi 8 147 1 75), (75, zo_reti), (76, zo_al 0 77), (77, zo_i 0 78), (78, zo_put 8 4 81), (81, zo_al 0 82), (82, zo_getr 8 10 85), (85, zo_i 23 87), (87, zo_iald 88), (88, zo_is 8 90), (90, zo_i 0 91), (91, zo_is 9 93), (93, zo_i 0 94), (94, zo_is 10 96), (96, zo_il 10 98), (98, zo_i 10 100), (100, zo_icge 146 103), (103, zo_al 0 104), (104, zo_getr 8 10 107), (107, zo_i 23 109), (109, zo_il 10 111), (111, zo_iast 112), (112, zo_il 9 114), (114, zo_al 0 115), (115, zo_il 2 116), (116, zo_il 3 117), (117, zo_il 4 119), (119, zo_il 5 121), (121, zo_il 6 123), (123, zo_cvi 8 213 5 126), (126, zo_ifeq 136 129), (129, zo_i 1 130), (130, zo_il 10 132), (132, zo_bin zshl 133), (133, zo_goto 137), (136, zo_i 0 137), (137, zo_bin (· ||| ·) 138), (138, zo_is 9 140), (140, zo_inc 10 1 143), (143, zo_goto 96), (146, zo_al 0 147), (147, zo_getr 8 10 150), (150, zo_i 23 152), (152, zo_il 8 154), (154, zo_iast 155), (155, zo_i 0 156), (156, zo_is 10 158), (158, zo_i (-1000000) 160), (160, zo_is 11 162), (162, zo_i 0 163), (163, zo_is 12 165), (165, zo_il 12 167), (167, zo_al 0 168), (168, zo_getr 8 10 171), (171, zo_i 0 172), (172, zo_iald 173), (173, zo_icge 275 176), (176, zo_il 12 178), (178, zo_i 1 179), (179, zo_bin (· + ·) 180), (180, zo_is 13 182), (182, zo_il 13 184), (184, zo_al 0 185), (185, zo_getr 8 10 188), (188, zo_i 0 189), (189, zo_iald 190), (190, zo_icge 269 193), (193, zo_al 0 194), (194, zo_il 12 196), (196, zo_il 13 198), (198, zo_cvv 8 215 2 201), (201, zo_al 0 202), (202, zo_il 2 203), (203, zo_il 3 204), (204, zo_il 4 206), (206, zo_il 5 208), (208, zo_il 6 210), (210, zo_cvi 8 213 5 213), (213, zo_is 14 215), (215, zo_al 0 216), (216, zo_il 12 218), (218, zo_il 13 220), (220, zo_cvv 8 215 2 223), (223, zo_il 14 225), (225, zo_ifeq 244 228), (228, zo_il 10 230), (230, zo_ifne 244 233), (233, zo_i 10 235), (235, zo_il 12 237), (237, zo_bin (· * ·) 238), (238, zo_il 13 240), (240, zo_bin (· + ·) 241), (241, zo_goto 246), (244, zo_il 11 246), (246, zo_is 11 248), (248, zo_il 10 250), (250, zo_il 14 252), (252, zo_ifeq 259 255), (255, zo_i 1 256), (256, zo_goto 260), (259, zo_i 0 260), (260, zo_bin (· + ·) 261), (261, zo_is 10 263), (263, zo_inc 13 1 266), (266, zo_goto 182), (269, zo_inc 12 1 272), (272, zo_goto 165), (275, zo_il 1 276), (276, zo_ifne 284 279), (279, zo_il 9 281), (281, zo_goto 296), (284, zo_il 1 285), (285, zo_i 1 286), (286, zo_icne 294 289), (289, zo_il 10 291), (291, zo_goto 296), (294, zo_il 11 296), (296, zo_reti)]
def cu_X8_fits : List (Nat × List Bool) := [(96, [true, true, true, true, true, true, true, false, true, true, true, false, false, false, false]), (165, [true, true, true, true, true, true, true, false, false, true, true, true, true, false, false]), (182, [true, true, true, true, true, true, true, false, false, true, true, true, true, true, false])]
set_option maxRecDepth 100000 in
set_option maxHeartbeats 4000000 in
theorem ok_X8_fits : ∀ e ∈ tb_X8_fits, ZOK zmt cX8_fits RX8 1 e.1 e.2 :=
  zcons (zk_aload_n (pc := 0) (j := 0) rfl (by decide +kernel)) (
  zcons (zk_getr (pc := 1) (ci := 8) (j := 10) rfl zinX8 (by decide) zw_935 (by decide +kernel)) (
  zcons (zk_iconst (pc := 4) (z := 0) (by decide) (by decide +kernel)) (
  zcons (zk_iaload (pc := 5) (by decide +kernel)) (
  zcons (zk_ifne (pc := 6) (off := 6) (by decide) (by decide +kernel)) (
  zcons (zk_ldc (pc := 9) zw_1087 (by decide +kernel)) (
  zcons (zk_reti (pc := 11) rfl (by decide +kernel)) (
  zcons (zk_iload_n (pc := 12) (j := 1) rfl (by decide +kernel)) (
  zcons (zk_iconst (pc := 13) (z := 0) (by decide) (by decide +kernel)) (
  zcons (zk_iconst (pc := 14) (z := 2) (by decide) (by decide +kernel)) (
  zcons (zk_csi (pc := 15) 143 rfl zw_1002 zw_1003 zds_X8_in (by decide) zw_1004 zw_9 (by decide +kernel)) (
  zcons (zk_ifeq (pc := 18) (off := 29) (by decide) (by decide +kernel)) (
  zcons (zk_iload_n (pc := 21) (j := 2) rfl (by decide +kernel)) (
  zcons (zk_csi (pc := 22) 146 rfl zw_999 zw_1000 zds_X8_isRow (by decide) zw_1001 zw_9 (by decide +kernel)) (
  zcons (zk_ifeq (pc := 25) (off := 22) (by decide) (by decide +kernel)) (
  zcons (zk_iload (pc := 28) (by decide +kernel)) (
  zcons (zk_csi (pc := 30) 146 rfl zw_999 zw_1000 zds_X8_isRow (by decide) zw_1001 zw_9 (by decide +kernel)) (
  zcons (zk_ifeq (pc := 33) (off := 14) (by decide) (by decide +kernel)) (
  zcons (zk_iload (pc := 36) (by decide +kernel)) (
  zcons (zk_iconst (pc := 38) (z := 1) (by decide) (by decide +kernel)) (
  zcons (zk_bipush (pc := 39) (z := 10) (by decide) (by decide +kernel)) (
  zcons (zk_csi (pc := 41) 143 rfl zw_1002 zw_1003 zds_X8_in (by decide) zw_1004 zw_9 (by decide +kernel)) (
  zcons (zk_ifne (pc := 44) (off := 6) (by decide) (by decide +kernel)) (
  zcons (zk_ldc (pc := 47) zw_1005 (by decide +kernel)) (
  zcons (zk_reti (pc := 49) rfl (by decide +kernel)) (
  zcons (zk_aload_n (pc := 50) (j := 0) rfl (by decide +kernel)) (
  zcons (zk_iload_n (pc := 51) (j := 2) rfl (by decide +kernel)) (
  zcons (zk_iload_n (pc := 52) (j := 3) rfl (by decide +kernel)) (
  zcons (zk_iload (pc := 53) (by decide +kernel)) (
  zcons (zk_iload (pc := 55) (by decide +kernel)) (
  zcons (zk_iload (pc := 57) (by decide +kernel)) (
  zcons (zk_cvi (pc := 59) 212 rfl (ci := 8) rfl zw_1275 zw_1277 zsel_X8_findingOf zds_X8_findingOf (by decide) zw_1278 zw_9 (by decide +kernel)) (
  zcons (zk_istore (pc := 62) (by decide +kernel)) (
  zcons (zk_iload (pc := 64) (by decide +kernel)) (
  zcons (zk_ifle (pc := 66) (off := 10) (by decide) (by decide +kernel)) (
  zcons (zk_aload_n (pc := 69) (j := 0) rfl (by decide +kernel)) (
  zcons (zk_iload (pc := 70) (by decide +kernel)) (
  zcons (zk_cvi (pc := 72) 147 rfl (ci := 8) rfl zw_1006 zw_1008 zsel_X8_finds zds_X8_finds (by decide) zw_1009 zw_9 (by decide +kernel)) (
  zcons (zk_reti (pc := 75) rfl (by decide +kernel)) (
  zcons (zk_aload_n (pc := 76) (j := 0) rfl (by decide +kernel)) (
  zcons (zk_iconst (pc := 77) (z := 0) (by decide) (by decide +kernel)) (
  zcons (zk_put (pc := 78) (ci := 8) (j := 4) rfl zinX8 (by decide) zw_929 tyX8 tyX8_ok nmX8 rfl (by decide +kernel) (by decide +kernel)) (
  zcons (zk_aload_n (pc := 81) (j := 0) rfl (by decide +kernel)) (
  zcons (zk_getr (pc := 82) (ci := 8) (j := 10) rfl zinX8 (by decide) zw_935 (by decide +kernel)) (
  zcons (zk_bipush (pc := 85) (z := 23) (by decide) (by decide +kernel)) (
  zcons (zk_iaload (pc := 87) (by decide +kernel)) (
  zcons (zk_istore (pc := 88) (by decide +kernel)) (
  zcons (zk_iconst (pc := 90) (z := 0) (by decide) (by decide +kernel)) (
  zcons (zk_istore (pc := 91) (by decide +kernel)) (
  zcons (zk_iconst (pc := 93) (z := 0) (by decide) (by decide +kernel)) (
  zcons (zk_istore (pc := 94) (by decide +kernel)) (
  zcons (zk_iload (pc := 96) (by decide +kernel)) (
  zcons (zk_bipush (pc := 98) (z := 10) (by decide) (by decide +kernel)) (
  zcons (zk_icge (pc := 100) (off := 46) (by decide) (by decide +kernel)) (
  zcons (zk_aload_n (pc := 103) (j := 0) rfl (by decide +kernel)) (
  zcons (zk_getr (pc := 104) (ci := 8) (j := 10) rfl zinX8 (by decide) zw_935 (by decide +kernel)) (
  zcons (zk_bipush (pc := 107) (z := 23) (by decide) (by decide +kernel)) (
  zcons (zk_iload (pc := 109) (by decide +kernel)) (
  zcons (zk_iastore (pc := 111) (by decide +kernel)) (
  zcons (zk_iload (pc := 112) (by decide +kernel)) (
  zcons (zk_aload_n (pc := 114) (j := 0) rfl (by decide +kernel)) (
  zcons (zk_iload_n (pc := 115) (j := 2) rfl (by decide +kernel)) (
  zcons (zk_iload_n (pc := 116) (j := 3) rfl (by decide +kernel)) (
  zcons (zk_iload (pc := 117) (by decide +kernel)) (
  zcons (zk_iload (pc := 119) (by decide +kernel)) (
  zcons (zk_iload (pc := 121) (by decide +kernel)) (
  zcons (zk_cvi (pc := 123) 213 rfl (ci := 8) rfl zw_1279 zw_1281 zsel_X8_isSo zds_X8_isSo (by decide) zw_1282 zw_9 (by decide +kernel)) (
  zcons (zk_ifeq (pc := 126) (off := 10) (by decide) (by decide +kernel)) (
  zcons (zk_iconst (pc := 129) (z := 1) (by decide) (by decide +kernel)) (
  zcons (zk_iload (pc := 130) (by decide +kernel)) (
  zcons (zk_ishl (pc := 132) (by decide +kernel)) (
  zcons (zk_goto (pc := 133) (off := 4) (by decide) (by decide +kernel)) (
  zcons (zk_iconst (pc := 136) (z := 0) (by decide) (by decide +kernel)) (
  zcons (zk_ior (pc := 137) (by decide +kernel)) (
  zcons (zk_istore (pc := 138) (by decide +kernel)) (
  zcons (zk_iinc (pc := 140) (z := 1) (by decide) (by decide +kernel)) (
  zcons (zk_goto (pc := 143) (off := (-47)) (by decide) (by decide +kernel)) (
  zcons (zk_aload_n (pc := 146) (j := 0) rfl (by decide +kernel)) (
  zcons (zk_getr (pc := 147) (ci := 8) (j := 10) rfl zinX8 (by decide) zw_935 (by decide +kernel)) (
  zcons (zk_bipush (pc := 150) (z := 23) (by decide) (by decide +kernel)) (
  zcons (zk_iload (pc := 152) (by decide +kernel)) (
  zcons (zk_iastore (pc := 154) (by decide +kernel)) (
  zcons (zk_iconst (pc := 155) (z := 0) (by decide) (by decide +kernel)) (
  zcons (zk_istore (pc := 156) (by decide +kernel)) (
  zcons (zk_ldc (pc := 158) zw_1169 (by decide +kernel)) (
  zcons (zk_istore (pc := 160) (by decide +kernel)) (
  zcons (zk_iconst (pc := 162) (z := 0) (by decide) (by decide +kernel)) (
  zcons (zk_istore (pc := 163) (by decide +kernel)) (
  zcons (zk_iload (pc := 165) (by decide +kernel)) (
  zcons (zk_aload_n (pc := 167) (j := 0) rfl (by decide +kernel)) (
  zcons (zk_getr (pc := 168) (ci := 8) (j := 10) rfl zinX8 (by decide) zw_935 (by decide +kernel)) (
  zcons (zk_iconst (pc := 171) (z := 0) (by decide) (by decide +kernel)) (
  zcons (zk_iaload (pc := 172) (by decide +kernel)) (
  zcons (zk_icge (pc := 173) (off := 102) (by decide) (by decide +kernel)) (
  zcons (zk_iload (pc := 176) (by decide +kernel)) (
  zcons (zk_iconst (pc := 178) (z := 1) (by decide) (by decide +kernel)) (
  zcons (zk_iadd (pc := 179) (by decide +kernel)) (
  zcons (zk_istore (pc := 180) (by decide +kernel)) (
  zcons (zk_iload (pc := 182) (by decide +kernel)) (
  zcons (zk_aload_n (pc := 184) (j := 0) rfl (by decide +kernel)) (
  zcons (zk_getr (pc := 185) (ci := 8) (j := 10) rfl zinX8 (by decide) zw_935 (by decide +kernel)) (
  zcons (zk_iconst (pc := 188) (z := 0) (by decide) (by decide +kernel)) (
  zcons (zk_iaload (pc := 189) (by decide +kernel)) (
  zcons (zk_icge (pc := 190) (off := 79) (by decide) (by decide +kernel)) (
  zcons (zk_aload_n (pc := 193) (j := 0) rfl (by decide +kernel)) (
  zcons (zk_iload (pc := 194) (by decide +kernel)) (
  zcons (zk_iload (pc := 196) (by decide +kernel)) (
  zcons (zk_cvv (pc := 198) 215 rfl (ci := 8) rfl zw_1287 zw_1289 zsel_X8_swaps zds_X8_swaps (by decide) zw_1290 zw_9 (by decide +kernel)) (
  zcons (zk_aload_n (pc := 201) (j := 0) rfl (by decide +kernel)) (
  zcons (zk_iload_n (pc := 202) (j := 2) rfl (by decide +kernel)) (
  zcons (zk_iload_n (pc := 203) (j := 3) rfl (by decide +kernel)) (
  zcons (zk_iload (pc := 204) (by decide +kernel)) (
  zcons (zk_iload (pc := 206) (by decide +kernel)) (
  zcons (zk_iload (pc := 208) (by decide +kernel)) (
  zcons (zk_cvi (pc := 210) 213 rfl (ci := 8) rfl zw_1279 zw_1281 zsel_X8_isSo zds_X8_isSo (by decide) zw_1282 zw_9 (by decide +kernel)) (
  zcons (zk_istore (pc := 213) (by decide +kernel)) (
  zcons (zk_aload_n (pc := 215) (j := 0) rfl (by decide +kernel)) (
  zcons (zk_iload (pc := 216) (by decide +kernel)) (
  zcons (zk_iload (pc := 218) (by decide +kernel)) (
  zcons (zk_cvv (pc := 220) 215 rfl (ci := 8) rfl zw_1287 zw_1289 zsel_X8_swaps zds_X8_swaps (by decide) zw_1290 zw_9 (by decide +kernel)) (
  zcons (zk_iload (pc := 223) (by decide +kernel)) (
  zcons (zk_ifeq (pc := 225) (off := 19) (by decide) (by decide +kernel)) (
  zcons (zk_iload (pc := 228) (by decide +kernel)) (
  zcons (zk_ifne (pc := 230) (off := 14) (by decide) (by decide +kernel)) (
  zcons (zk_bipush (pc := 233) (z := 10) (by decide) (by decide +kernel)) (
  zcons (zk_iload (pc := 235) (by decide +kernel)) (
  zcons (zk_imul (pc := 237) (by decide +kernel)) (
  zcons (zk_iload (pc := 238) (by decide +kernel)) (
  zcons (zk_iadd (pc := 240) (by decide +kernel)) (
  zcons (zk_goto (pc := 241) (off := 5) (by decide) (by decide +kernel)) (
  zcons (zk_iload (pc := 244) (by decide +kernel)) (
  zcons (zk_istore (pc := 246) (by decide +kernel)) (
  zcons (zk_iload (pc := 248) (by decide +kernel)) (
  zcons (zk_iload (pc := 250) (by decide +kernel)) (
  zcons (zk_ifeq (pc := 252) (off := 7) (by decide) (by decide +kernel)) (
  zcons (zk_iconst (pc := 255) (z := 1) (by decide) (by decide +kernel)) (
  zcons (zk_goto (pc := 256) (off := 4) (by decide) (by decide +kernel)) (
  zcons (zk_iconst (pc := 259) (z := 0) (by decide) (by decide +kernel)) (
  zcons (zk_iadd (pc := 260) (by decide +kernel)) (
  zcons (zk_istore (pc := 261) (by decide +kernel)) (
  zcons (zk_iinc (pc := 263) (z := 1) (by decide) (by decide +kernel)) (
  zcons (zk_goto (pc := 266) (off := (-84)) (by decide) (by decide +kernel)) (
  zcons (zk_iinc (pc := 269) (z := 1) (by decide) (by decide +kernel)) (
  zcons (zk_goto (pc := 272) (off := (-107)) (by decide) (by decide +kernel)) (
  zcons (zk_iload_n (pc := 275) (j := 1) rfl (by decide +kernel)) (
  zcons (zk_ifne (pc := 276) (off := 8) (by decide) (by decide +kernel)) (
  zcons (zk_iload (pc := 279) (by decide +kernel)) (
  zcons (zk_goto (pc := 281) (off := 15) (by decide) (by decide +kernel)) (
  zcons (zk_iload_n (pc := 284) (j := 1) rfl (by decide +kernel)) (
  zcons (zk_iconst (pc := 285) (z := 1) (by decide) (by decide +kernel)) (
  zcons (zk_icne (pc := 286) (off := 8) (by decide) (by decide +kernel)) (
  zcons (zk_iload (pc := 289) (by decide +kernel)) (
  zcons (zk_goto (pc := 291) (off := 5) (by decide) (by decide +kernel)) (
  zcons (zk_iload (pc := 294) (by decide +kernel)) (
  zcons (zk_reti (pc := 296) rfl (by decide +kernel)) (znil)))))))))))))))))))))))))))))))))))))))))))))))))))))))))))))))))))))))))))))))))))))))))))))))))))))))))))))))))))))))))))))))))))))))))))))))))))))))))))
def tb_X8_wrong : List (Nat × ZP) := [(0, zo_al 0 1), (1, zo_il 1 2), (2, zo_cvi 8 177 1 5), (5, zo_ifeq 38 8), (8, zo_il 2 9), (9, zo_i 0 10), (10, zo_i 10 12), (12, zo_csi 143 3 15), (15, zo_ifeq 38 18), (18, zo_il 3 19), (19, zo_i 0 20), (20, zo_i 10 22), (22, zo_csi 143 3 25), (25, zo_ifeq 38 28), (28, zo_il 4 30), (30, zo_i 0 31), (31, zo_i 1 32), (32, zo_csi 143 3 35), (35, zo_ifne 42 38), (38, zo_l (-1000001) 41), (41, zo_retj), (42, zo_i 0 43), (43, zo_is 5 45), (45, zo_il 5 47), (47, zo_i 10 49), (49, zo_icgt 75 52), (52, zo_al 0 53), (53, zo_getr 8 21 56), (56, zo_il 5 58), (58, zo_il 5 60), (60, zo_ifne 67 63), (63, zo_l 1 64), (64, zo_goto 68), (67, zo_l 0 68), (68, zo_last 69), (69, zo_inc 5 1 72), (72, zo_goto 45), (75, zo_l 1 76), (76, zo_ls 5 78), (78, zo_i 0 79), (79, zo_is 7 81), (81, zo_il 7 83), (83, zo_al 0 84), (84, zo_getr 8 10 87), (87, zo_i 0 88), (88, zo_iald 89), (89, zo_icge 236 92), (92, zo_al 0 93), (93, zo_cvi 8 172 0 96), (96, zo_il 1 97), (97, zo_i (-1) 98), (98, zo_bin (· ^^^ ·) 99), (99, zo_bin (· &&& ·) 100), (100, zo_il 7 102), (102, zo_csi 144 2 105), (105, zo_ifeq 123 108), (108, zo_al 0 109), (109, zo_getr 8 12 112), (112, zo_il 7 114), (114, zo_iald 115), (115, zo_il 1 116), (116, zo_bin (· &&& ·) 117), (117, zo_csi 145 1 120), (120, zo_goto 124), (123, zo_i 0 124), (124, zo_is 8 126), (126, zo_l 1 127), (127, zo_ls 9 129), (129, zo_l 1 130), (130, zo_ls 11 132), (132, zo_i 0 133), (133, zo_is 13 135), (135, zo_il 13 137), (137, zo_il 8 139), (139, zo_icge 166 142), (142, zo_ll 9 144), (144, zo_l 10 147), (147, zo_lbin (· * ·) 148), (148, zo_ls 9 150), (150, zo_ll 11 152), (152, zo_i 10 154), (154, zo_il 3 155), (155, zo_bin (· - ·) 156), (156, zo_i2l 157), (157, zo_lbin (· * ·) 158), (158, zo_ls 11 160), (160, zo_inc 13 1 163), (163, zo_goto 135), (166, zo_ll 5 168), (168, zo_ll 9 170), (170, zo_lbin (· * ·) 171), (171, zo_ls 5 173), (173, zo_i 10 175), (175, zo_is 13 177), (177, zo_il 13 179), (179, zo_iflt 230 182), (182, zo_al 0 183), (183, zo_getr 8 21 186), (186, zo_il 13 188), (188, zo_al 0 189), (189, zo_getr 8 21 192), (192, zo_il 13 194), (194, zo_lald 195), (195, zo_ll 11 197), (197, zo_lbin (· * ·) 198), (198, zo_il 13 200), (200, zo_ifle 221 203), (203, zo_al 0 204), (204, zo_getr 8 21 207), (207, zo_il 13 209), (209, zo_i 1 210), (210, zo_bin (· - ·) 211), (211, zo_lald 212), (212, zo_ll 9 214), (214, zo_ll 11 216), (216, zo_lbin (· - ·) 217), (217, zo_lbin (· * ·) 218), (218, zo_goto 222), (221, zo_l 0 222), (222, zo_lbin (· + ·) 223), (223, zo_last 224), (224, zo_inc 13 (-1) 227), (227, zo_goto 177), (230, zo_inc 7 1 233), (233, zo_goto 81), (236, zo_l 0 237), (237, zo_ls 7 239), (239, zo_i 0 240), (240, zo_is 9 242), (242, zo_il 9 244), (244, zo_il 2 245), (245, zo_icgt 266 248), (248, zo_ll 7 250), (250, zo_al 0 251), (251, zo_getr 8 21 254), (254, zo_il 9 256), (256, zo_lald 257), (257, zo_lbin (· + ·) 258), (258, zo_ls 7 260), (260, zo_inc 9 1 263), (263, zo_goto 242), (266, zo_ll 7 268), (268, zo_ls 9 270), (270, zo_ll 5 272), (272, zo_ls 11 274), (274, zo_ll 11 276), (276, zo_l 0 277), (277, zo_lcmp 278), (278, zo_ifle 299 281), (281, zo_ll 9 283), (283, zo_ll 11 285), (285, zo_ldv zlrem 286), (286, zo_ls 13 288), (288, zo_ll 11 290), (290, zo_ls 9 292), (292, zo_ll 13 294), (294, zo_ls 11 296), (296, zo_goto 274), (299, zo_il 4 301), (301, zo_ifne 312 304), (304, zo_ll 7 306), (306, zo_ll 9 308), (308, zo_ldv (· / ·) 309), (309, zo_goto 317), (312, zo_ll 5 314), (314, zo_ll 9 316), (316, zo_ldv (· / ·) 317), (317, zo_retj)]
def cu_X8_wrong : List (Nat × List Bool) := [(45, [true, true, true, true, true, true, false, false, false, false, false, false, false, false, false]), (81, [true, true, true, true, true, true, false, true, false, false, false, false, false, false, false]), (135, [true, true, true, true, true, true, false, true, true, true, false, true, false, true, false]), (177, [true, true, true, true, true, true, false, true, false, true, false, true, false, true, false]), (242, [true, false, true, false, true, true, false, true, false, true, false, false, false, false, false]), (274, [false, false, false, false, true, true, false, true, false, true, false, true, false, false, false])]
set_option maxRecDepth 100000 in
set_option maxHeartbeats 4000000 in
theorem ok_X8_wrong : ∀ e ∈ tb_X8_wrong, ZOK zmt cX8_wrong RX8 2 e.1 e.2 :=
  zcons (zk_aload_n (pc := 0) (j := 0) rfl (by decide +kernel)) (
  zcons (zk_iload_n (pc := 1) (j := 1) rfl (by decide +kernel)) (
  zcons (zk_cvi (pc := 2) 177 rfl (ci := 8) rfl zw_1096 zw_1098 zsel_X8_isPiece zds_X8_isPiece (by decide) zw_1099 zw_9 (by decide +kernel)) (
  zcons (zk_ifeq (pc := 5) (off := 33) (by decide) (by decide +kernel)) (
  zcons (zk_iload_n (pc := 8) (j := 2) rfl (by decide +kernel)) (
  zcons (zk_iconst (pc := 9) (z := 0) (by decide) (by decide +kernel)) (
  zcons (zk_bipush (pc := 10) (z := 10) (by decide) (by decide +kernel)) (
  zcons (zk_csi (pc := 12) 143 rfl zw_1002 zw_1003 zds_X8_in (by decide) zw_1004 zw_9 (by decide +kernel)) (
  zcons (zk_ifeq (pc := 15) (off := 23) (by decide) (by decide +kernel)) (
  zcons (zk_iload_n (pc := 18) (j := 3) rfl (by decide +kernel)) (
  zcons (zk_iconst (pc := 19) (z := 0) (by decide) (by decide +kernel)) (
  zcons (zk_bipush (pc := 20) (z := 10) (by decide) (by decide +kernel)) (
  zcons (zk_csi (pc := 22) 143 rfl zw_1002 zw_1003 zds_X8_in (by decide) zw_1004 zw_9 (by decide +kernel)) (
  zcons (zk_ifeq (pc := 25) (off := 13) (by decide) (by decide +kernel)) (
  zcons (zk_iload (pc := 28) (by decide +kernel)) (
  zcons (zk_iconst (pc := 30) (z := 0) (by decide) (by decide +kernel)) (
  zcons (zk_iconst (pc := 31) (z := 1) (by decide) (by decide +kernel)) (
  zcons (zk_csi (pc := 32) 143 rfl zw_1002 zw_1003 zds_X8_in (by decide) zw_1004 zw_9 (by decide +kernel)) (
  zcons (zk_ifne (pc := 35) (off := 7) (by decide) (by decide +kernel)) (
  zcons (zk_ldc2 (pc := 38) zw_1295 (by decide +kernel)) (
  zcons (zk_retj (pc := 41) rfl (by decide +kernel)) (
  zcons (zk_iconst (pc := 42) (z := 0) (by decide) (by decide +kernel)) (
  zcons (zk_istore (pc := 43) (by decide +kernel)) (
  zcons (zk_iload (pc := 45) (by decide +kernel)) (
  zcons (zk_bipush (pc := 47) (z := 10) (by decide) (by decide +kernel)) (
  zcons (zk_icgt (pc := 49) (off := 26) (by decide) (by decide +kernel)) (
  zcons (zk_aload_n (pc := 52) (j := 0) rfl (by decide +kernel)) (
  zcons (zk_getr (pc := 53) (ci := 8) (j := 21) rfl zinX8 (by decide) zw_946 (by decide +kernel)) (
  zcons (zk_iload (pc := 56) (by decide +kernel)) (
  zcons (zk_iload (pc := 58) (by decide +kernel)) (
  zcons (zk_ifne (pc := 60) (off := 7) (by decide) (by decide +kernel)) (
  zcons (zk_lconst (pc := 63) (z := 1) (by decide) (by decide +kernel)) (
  zcons (zk_goto (pc := 64) (off := 4) (by decide) (by decide +kernel)) (
  zcons (zk_lconst (pc := 67) (z := 0) (by decide) (by decide +kernel)) (
  zcons (zk_lastore (pc := 68) (by decide +kernel)) (
  zcons (zk_iinc (pc := 69) (z := 1) (by decide) (by decide +kernel)) (
  zcons (zk_goto (pc := 72) (off := (-27)) (by decide) (by decide +kernel)) (
  zcons (zk_lconst (pc := 75) (z := 1) (by decide) (by decide +kernel)) (
  zcons (zk_lstore (pc := 76) (by decide +kernel)) (
  zcons (zk_iconst (pc := 78) (z := 0) (by decide) (by decide +kernel)) (
  zcons (zk_istore (pc := 79) (by decide +kernel)) (
  zcons (zk_iload (pc := 81) (by decide +kernel)) (
  zcons (zk_aload_n (pc := 83) (j := 0) rfl (by decide +kernel)) (
  zcons (zk_getr (pc := 84) (ci := 8) (j := 10) rfl zinX8 (by decide) zw_935 (by decide +kernel)) (
  zcons (zk_iconst (pc := 87) (z := 0) (by decide) (by decide +kernel)) (
  zcons (zk_iaload (pc := 88) (by decide +kernel)) (
  zcons (zk_icge (pc := 89) (off := 147) (by decide) (by decide +kernel)) (
  zcons (zk_aload_n (pc := 92) (j := 0) rfl (by decide +kernel)) (
  zcons (zk_cvi (pc := 93) 172 rfl (ci := 8) rfl zw_1100 zw_1102 zsel_X8_on zds_X8_on (by decide) zw_1103 zw_9 (by decide +kernel)) (
  zcons (zk_iload_n (pc := 96) (j := 1) rfl (by decide +kernel)) (
  zcons (zk_iconst (pc := 97) (z := (-1)) (by decide) (by decide +kernel)) (
  zcons (zk_ixor (pc := 98) (by decide +kernel)) (
  zcons (zk_iand (pc := 99) (by decide +kernel)) (
  zcons (zk_iload (pc := 100) (by decide +kernel)) (
  zcons (zk_csi (pc := 102) 144 rfl zw_1115 zw_1116 zds_X8_has (by decide) zw_1117 zw_9 (by decide +kernel)) (
  zcons (zk_ifeq (pc := 105) (off := 18) (by decide) (by decide +kernel)) (
  zcons (zk_aload_n (pc := 108) (j := 0) rfl (by decide +kernel)) (
  zcons (zk_getr (pc := 109) (ci := 8) (j := 12) rfl zinX8 (by decide) zw_937 (by decide +kernel)) (
  zcons (zk_iload (pc := 112) (by decide +kernel)) (
  zcons (zk_iaload (pc := 114) (by decide +kernel)) (
  zcons (zk_iload_n (pc := 115) (j := 1) rfl (by decide +kernel)) (
  zcons (zk_iand (pc := 116) (by decide +kernel)) (
  zcons (zk_csi (pc := 117) 145 rfl zw_1126 zw_1127 zds_X8_ones (by decide) zw_1128 zw_9 (by decide +kernel)) (
  zcons (zk_goto (pc := 120) (off := 4) (by decide) (by decide +kernel)) (
  zcons (zk_iconst (pc := 123) (z := 0) (by decide) (by decide +kernel)) (
  zcons (zk_istore (pc := 124) (by decide +kernel)) (
  zcons (zk_lconst (pc := 126) (z := 1) (by decide) (by decide +kernel)) (
  zcons (zk_lstore (pc := 127) (by decide +kernel)) (
  zcons (zk_lconst (pc := 129) (z := 1) (by decide) (by decide +kernel)) (
  zcons (zk_lstore (pc := 130) (by decide +kernel)) (
  zcons (zk_iconst (pc := 132) (z := 0) (by decide) (by decide +kernel)) (
  zcons (zk_istore (pc := 133) (by decide +kernel)) (
  zcons (zk_iload (pc := 135) (by decide +kernel)) (
  zcons (zk_iload (pc := 137) (by decide +kernel)) (
  zcons (zk_icge (pc := 139) (off := 27) (by decide) (by decide +kernel)) (
  zcons (zk_lload (pc := 142) (by decide +kernel)) (
  zcons (zk_ldc2 (pc := 144) zw_1296 (by decide +kernel)) (
  zcons (zk_lmul (pc := 147) (by decide +kernel)) (
  zcons (zk_lstore (pc := 148) (by decide +kernel)) (
  zcons (zk_lload (pc := 150) (by decide +kernel)) (
  zcons (zk_bipush (pc := 152) (z := 10) (by decide) (by decide +kernel)) (
  zcons (zk_iload_n (pc := 154) (j := 3) rfl (by decide +kernel)) (
  zcons (zk_isub (pc := 155) (by decide +kernel)) (
  zcons (zk_i2l (pc := 156) (by decide +kernel)) (
  zcons (zk_lmul (pc := 157) (by decide +kernel)) (
  zcons (zk_lstore (pc := 158) (by decide +kernel)) (
  zcons (zk_iinc (pc := 160) (z := 1) (by decide) (by decide +kernel)) (
  zcons (zk_goto (pc := 163) (off := (-28)) (by decide) (by decide +kernel)) (
  zcons (zk_lload (pc := 166) (by decide +kernel)) (
  zcons (zk_lload (pc := 168) (by decide +kernel)) (
  zcons (zk_lmul (pc := 170) (by decide +kernel)) (
  zcons (zk_lstore (pc := 171) (by decide +kernel)) (
  zcons (zk_bipush (pc := 173) (z := 10) (by decide) (by decide +kernel)) (
  zcons (zk_istore (pc := 175) (by decide +kernel)) (
  zcons (zk_iload (pc := 177) (by decide +kernel)) (
  zcons (zk_iflt (pc := 179) (off := 51) (by decide) (by decide +kernel)) (
  zcons (zk_aload_n (pc := 182) (j := 0) rfl (by decide +kernel)) (
  zcons (zk_getr (pc := 183) (ci := 8) (j := 21) rfl zinX8 (by decide) zw_946 (by decide +kernel)) (
  zcons (zk_iload (pc := 186) (by decide +kernel)) (
  zcons (zk_aload_n (pc := 188) (j := 0) rfl (by decide +kernel)) (
  zcons (zk_getr (pc := 189) (ci := 8) (j := 21) rfl zinX8 (by decide) zw_946 (by decide +kernel)) (
  zcons (zk_iload (pc := 192) (by decide +kernel)) (
  zcons (zk_laload (pc := 194) (by decide +kernel)) (
  zcons (zk_lload (pc := 195) (by decide +kernel)) (
  zcons (zk_lmul (pc := 197) (by decide +kernel)) (
  zcons (zk_iload (pc := 198) (by decide +kernel)) (
  zcons (zk_ifle (pc := 200) (off := 21) (by decide) (by decide +kernel)) (
  zcons (zk_aload_n (pc := 203) (j := 0) rfl (by decide +kernel)) (
  zcons (zk_getr (pc := 204) (ci := 8) (j := 21) rfl zinX8 (by decide) zw_946 (by decide +kernel)) (
  zcons (zk_iload (pc := 207) (by decide +kernel)) (
  zcons (zk_iconst (pc := 209) (z := 1) (by decide) (by decide +kernel)) (
  zcons (zk_isub (pc := 210) (by decide +kernel)) (
  zcons (zk_laload (pc := 211) (by decide +kernel)) (
  zcons (zk_lload (pc := 212) (by decide +kernel)) (
  zcons (zk_lload (pc := 214) (by decide +kernel)) (
  zcons (zk_lsub (pc := 216) (by decide +kernel)) (
  zcons (zk_lmul (pc := 217) (by decide +kernel)) (
  zcons (zk_goto (pc := 218) (off := 4) (by decide) (by decide +kernel)) (
  zcons (zk_lconst (pc := 221) (z := 0) (by decide) (by decide +kernel)) (
  zcons (zk_ladd (pc := 222) (by decide +kernel)) (
  zcons (zk_lastore (pc := 223) (by decide +kernel)) (
  zcons (zk_iinc (pc := 224) (z := (-1)) (by decide) (by decide +kernel)) (
  zcons (zk_goto (pc := 227) (off := (-50)) (by decide) (by decide +kernel)) (
  zcons (zk_iinc (pc := 230) (z := 1) (by decide) (by decide +kernel)) (
  zcons (zk_goto (pc := 233) (off := (-152)) (by decide) (by decide +kernel)) (
  zcons (zk_lconst (pc := 236) (z := 0) (by decide) (by decide +kernel)) (
  zcons (zk_lstore (pc := 237) (by decide +kernel)) (
  zcons (zk_iconst (pc := 239) (z := 0) (by decide) (by decide +kernel)) (
  zcons (zk_istore (pc := 240) (by decide +kernel)) (
  zcons (zk_iload (pc := 242) (by decide +kernel)) (
  zcons (zk_iload_n (pc := 244) (j := 2) rfl (by decide +kernel)) (
  zcons (zk_icgt (pc := 245) (off := 21) (by decide) (by decide +kernel)) (
  zcons (zk_lload (pc := 248) (by decide +kernel)) (
  zcons (zk_aload_n (pc := 250) (j := 0) rfl (by decide +kernel)) (
  zcons (zk_getr (pc := 251) (ci := 8) (j := 21) rfl zinX8 (by decide) zw_946 (by decide +kernel)) (
  zcons (zk_iload (pc := 254) (by decide +kernel)) (
  zcons (zk_laload (pc := 256) (by decide +kernel)) (
  zcons (zk_ladd (pc := 257) (by decide +kernel)) (
  zcons (zk_lstore (pc := 258) (by decide +kernel)) (
  zcons (zk_iinc (pc := 260) (z := 1) (by decide) (by decide +kernel)) (
  zcons (zk_goto (pc := 263) (off := (-21)) (by decide) (by decide +kernel)) (
  zcons (zk_lload (pc := 266) (by decide +kernel)) (
  zcons (zk_lstore (pc := 268) (by decide +kernel)) (
  zcons (zk_lload (pc := 270) (by decide +kernel)) (
  zcons (zk_lstore (pc := 272) (by decide +kernel)) (
  zcons (zk_lload (pc := 274) (by decide +kernel)) (
  zcons (zk_lconst (pc := 276) (z := 0) (by decide) (by decide +kernel)) (
  zcons (zk_lcmp (pc := 277) (by decide +kernel)) (
  zcons (zk_ifle (pc := 278) (off := 21) (by decide) (by decide +kernel)) (
  zcons (zk_lload (pc := 281) (by decide +kernel)) (
  zcons (zk_lload (pc := 283) (by decide +kernel)) (
  zcons (zk_lrem (pc := 285) (by decide +kernel)) (
  zcons (zk_lstore (pc := 286) (by decide +kernel)) (
  zcons (zk_lload (pc := 288) (by decide +kernel)) (
  zcons (zk_lstore (pc := 290) (by decide +kernel)) (
  zcons (zk_lload (pc := 292) (by decide +kernel)) (
  zcons (zk_lstore (pc := 294) (by decide +kernel)) (
  zcons (zk_goto (pc := 296) (off := (-22)) (by decide) (by decide +kernel)) (
  zcons (zk_iload (pc := 299) (by decide +kernel)) (
  zcons (zk_ifne (pc := 301) (off := 11) (by decide) (by decide +kernel)) (
  zcons (zk_lload (pc := 304) (by decide +kernel)) (
  zcons (zk_lload (pc := 306) (by decide +kernel)) (
  zcons (zk_ldiv (pc := 308) (by decide +kernel)) (
  zcons (zk_goto (pc := 309) (off := 8) (by decide) (by decide +kernel)) (
  zcons (zk_lload (pc := 312) (by decide +kernel)) (
  zcons (zk_lload (pc := 314) (by decide +kernel)) (
  zcons (zk_ldiv (pc := 316) (by decide +kernel)) (
  zcons (zk_retj (pc := 317) rfl (by decide +kernel)) (znil))))))))))))))))))))))))))))))))))))))))))))))))))))))))))))))))))))))))))))))))))))))))))))))))))))))))))))))))))))))))))))))))))))))))))))))))))))))))))))))))))))))))
def tb_X8_day : List (Nat × ZP) := [(0, zo_ll 1 1), (1, zo_al 0 2), (2, zo_getr 8 10 5), (5, zo_i 0 6), (6, zo_iald 7), (7, zo_i2l 8), (8, zo_ldv zlrem 9), (9, zo_l2i 10), (10, zo_is 3 11), (11, zo_al 0 12), (12, zo_getr 8 10 15), (15, zo_i 2 16), (16, zo_iald 17), (17, zo_ifeq 30 20), (20, zo_ll 1 21), (21, zo_l 3 24), (24, zo_ldv zlrem 25), (25, zo_l 0 26), (26, zo_lcmp 27), (27, zo_ifne 59 30), (30, zo_al 0 31), (31, zo_getr 8 10 34), (34, zo_i 25 36), (36, zo_dup2 37), (37, zo_iald 38), (38, zo_al 0 39), (39, zo_cvi 8 172 0 42), (42, zo_il 3 43), (43, zo_csi 144 2 46), (46, zo_ifeq 55 49), (49, zo_i 1 50), (50, zo_il 3 51), (51, zo_bin zshl 52), (52, zo_goto 56), (55, zo_i 0 56), (56, zo_bin (· ||| ·) 57), (57, zo_iast 58), (58, zo_retv), (59, zo_ll 1 60), (60, zo_al 0 61), (61, zo_getr 8 10 64), (64, zo_i 2 65), (65, zo_iald 66), (66, zo_i2l 67), (67, zo_ldv zlrem 68), (68, zo_l2i 69), (69, zo_is 4 71), (71, zo_al 0 72), (72, zo_getr 8 10 75), (75, zo_i 26 77), (77, zo_il 4 79), (79, zo_bin (· + ·) 80), (80, zo_iald 81), (81, zo_ifle 96 84), (84, zo_al 0 85), (85, zo_getr 8 10 88), (88, zo_i 26 90), (90, zo_il 4 92), (92, zo_bin (· + ·) 93), (93, zo_i 0 94), (94, zo_iast 95), (95, zo_retv), (96, zo_al 0 97), (97, zo_il 4 99), (99, zo_cvi 8 200 1 102), (102, zo_is 5 104), (104, zo_il 5 106), (106, zo_ifle 117 109), (109, zo_al 0 110), (110, zo_il 4 112), (112, zo_il 5 114), (114, zo_cvv 8 180 2 117), (117, zo_retv)]
def cu_X8_day : List (Nat × List Bool) := []
set_option maxRecDepth 100000 in
set_option maxHeartbeats 4000000 in
theorem ok_X8_day : ∀ e ∈ tb_X8_day, ZOK zmt cX8_day RX8 0 e.1 e.2 :=
  zcons (zk_lload_n (pc := 0) (j := 1) rfl (by decide +kernel)) (
  zcons (zk_aload_n (pc := 1) (j := 0) rfl (by decide +kernel)) (
  zcons (zk_getr (pc := 2) (ci := 8) (j := 10) rfl zinX8 (by decide) zw_935 (by decide +kernel)) (
  zcons (zk_iconst (pc := 5) (z := 0) (by decide) (by decide +kernel)) (
  zcons (zk_iaload (pc := 6) (by decide +kernel)) (
  zcons (zk_i2l (pc := 7) (by decide +kernel)) (
  zcons (zk_lrem (pc := 8) (by decide +kernel)) (
  zcons (zk_l2i (pc := 9) (by decide +kernel)) (
  zcons (zk_istore_n (pc := 10) (j := 3) rfl (by decide +kernel)) (
  zcons (zk_aload_n (pc := 11) (j := 0) rfl (by decide +kernel)) (
  zcons (zk_getr (pc := 12) (ci := 8) (j := 10) rfl zinX8 (by decide) zw_935 (by decide +kernel)) (
  zcons (zk_iconst (pc := 15) (z := 2) (by decide) (by decide +kernel)) (
  zcons (zk_iaload (pc := 16) (by decide +kernel)) (
  zcons (zk_ifeq (pc := 17) (off := 13) (by decide) (by decide +kernel)) (
  zcons (zk_lload_n (pc := 20) (j := 1) rfl (by decide +kernel)) (
  zcons (zk_ldc2 (pc := 21) zw_1308 (by decide +kernel)) (
  zcons (zk_lrem (pc := 24) (by decide +kernel)) (
  zcons (zk_lconst (pc := 25) (z := 0) (by decide) (by decide +kernel)) (
  zcons (zk_lcmp (pc := 26) (by decide +kernel)) (
  zcons (zk_ifne (pc := 27) (off := 32) (by decide) (by decide +kernel)) (
  zcons (zk_aload_n (pc := 30) (j := 0) rfl (by decide +kernel)) (
  zcons (zk_getr (pc := 31) (ci := 8) (j := 10) rfl zinX8 (by decide) zw_935 (by decide +kernel)) (
  zcons (zk_bipush (pc := 34) (z := 25) (by decide) (by decide +kernel)) (
  zcons (zk_dup2 (pc := 36) (by decide +kernel)) (
  zcons (zk_iaload (pc := 37) (by decide +kernel)) (
  zcons (zk_aload_n (pc := 38) (j := 0) rfl (by decide +kernel)) (
  zcons (zk_cvi (pc := 39) 172 rfl (ci := 8) rfl zw_1100 zw_1102 zsel_X8_on zds_X8_on (by decide) zw_1103 zw_9 (by decide +kernel)) (
  zcons (zk_iload_n (pc := 42) (j := 3) rfl (by decide +kernel)) (
  zcons (zk_csi (pc := 43) 144 rfl zw_1115 zw_1116 zds_X8_has (by decide) zw_1117 zw_9 (by decide +kernel)) (
  zcons (zk_ifeq (pc := 46) (off := 9) (by decide) (by decide +kernel)) (
  zcons (zk_iconst (pc := 49) (z := 1) (by decide) (by decide +kernel)) (
  zcons (zk_iload_n (pc := 50) (j := 3) rfl (by decide +kernel)) (
  zcons (zk_ishl (pc := 51) (by decide +kernel)) (
  zcons (zk_goto (pc := 52) (off := 4) (by decide) (by decide +kernel)) (
  zcons (zk_iconst (pc := 55) (z := 0) (by decide) (by decide +kernel)) (
  zcons (zk_ior (pc := 56) (by decide +kernel)) (
  zcons (zk_iastore (pc := 57) (by decide +kernel)) (
  zcons (zk_retv (pc := 58) rfl (by decide +kernel)) (
  zcons (zk_lload_n (pc := 59) (j := 1) rfl (by decide +kernel)) (
  zcons (zk_aload_n (pc := 60) (j := 0) rfl (by decide +kernel)) (
  zcons (zk_getr (pc := 61) (ci := 8) (j := 10) rfl zinX8 (by decide) zw_935 (by decide +kernel)) (
  zcons (zk_iconst (pc := 64) (z := 2) (by decide) (by decide +kernel)) (
  zcons (zk_iaload (pc := 65) (by decide +kernel)) (
  zcons (zk_i2l (pc := 66) (by decide +kernel)) (
  zcons (zk_lrem (pc := 67) (by decide +kernel)) (
  zcons (zk_l2i (pc := 68) (by decide +kernel)) (
  zcons (zk_istore (pc := 69) (by decide +kernel)) (
  zcons (zk_aload_n (pc := 71) (j := 0) rfl (by decide +kernel)) (
  zcons (zk_getr (pc := 72) (ci := 8) (j := 10) rfl zinX8 (by decide) zw_935 (by decide +kernel)) (
  zcons (zk_bipush (pc := 75) (z := 26) (by decide) (by decide +kernel)) (
  zcons (zk_iload (pc := 77) (by decide +kernel)) (
  zcons (zk_iadd (pc := 79) (by decide +kernel)) (
  zcons (zk_iaload (pc := 80) (by decide +kernel)) (
  zcons (zk_ifle (pc := 81) (off := 15) (by decide) (by decide +kernel)) (
  zcons (zk_aload_n (pc := 84) (j := 0) rfl (by decide +kernel)) (
  zcons (zk_getr (pc := 85) (ci := 8) (j := 10) rfl zinX8 (by decide) zw_935 (by decide +kernel)) (
  zcons (zk_bipush (pc := 88) (z := 26) (by decide) (by decide +kernel)) (
  zcons (zk_iload (pc := 90) (by decide +kernel)) (
  zcons (zk_iadd (pc := 92) (by decide +kernel)) (
  zcons (zk_iconst (pc := 93) (z := 0) (by decide) (by decide +kernel)) (
  zcons (zk_iastore (pc := 94) (by decide +kernel)) (
  zcons (zk_retv (pc := 95) rfl (by decide +kernel)) (
  zcons (zk_aload_n (pc := 96) (j := 0) rfl (by decide +kernel)) (
  zcons (zk_iload (pc := 97) (by decide +kernel)) (
  zcons (zk_cvi (pc := 99) 200 rfl (ci := 8) rfl zw_1222 zw_1224 zsel_X8_bestFor zds_X8_bestFor (by decide) zw_1225 zw_9 (by decide +kernel)) (
  zcons (zk_istore (pc := 102) (by decide +kernel)) (
  zcons (zk_iload (pc := 104) (by decide +kernel)) (
  zcons (zk_ifle (pc := 106) (off := 11) (by decide) (by decide +kernel)) (
  zcons (zk_aload_n (pc := 109) (j := 0) rfl (by decide +kernel)) (
  zcons (zk_iload (pc := 110) (by decide +kernel)) (
  zcons (zk_iload (pc := 112) (by decide +kernel)) (
  zcons (zk_cvv (pc := 114) 180 rfl (ci := 8) rfl zw_1137 zw_1139 zsel_X8_serves zds_X8_serves (by decide) zw_1140 zw_9 (by decide +kernel)) (
  zcons (zk_retv (pc := 117) rfl (by decide +kernel)) (znil)))))))))))))))))))))))))))))))))))))))))))))))))))))))))))))))))))))))))
def tb_X8_drawn : List (Nat × ZP) := [(0, zo_al 0 1), (1, zo_getr 8 10 4), (4, zo_i 0 5), (5, zo_iald 6), (6, zo_ifne 12 9), (9, zo_i (-1000002) 11), (11, zo_reti), (12, zo_il 1 13), (13, zo_i 0 14), (14, zo_i 60 16), (16, zo_csi 143 3 19), (19, zo_ifeq 41 22), (22, zo_il 2 23), (23, zo_i 1 24), (24, zo_i 999999 26), (26, zo_csi 143 3 29), (29, zo_ifeq 41 32), (32, zo_il 3 33), (33, zo_i 0 34), (34, zo_i 1 35), (35, zo_csi 143 3 38), (38, zo_ifne 44 41), (41, zo_i (-1000001) 43), (43, zo_reti), (44, zo_al 0 45), (45, zo_cvv 8 194 0 48), (48, zo_i 0 49), (49, zo_is 4 51), (51, zo_il 4 53), (53, zo_i 18 55), (55, zo_icge 81 58), (58, zo_al 0 59), (59, zo_getr 8 22 62), (62, zo_il 4 64), (64, zo_al 0 65), (65, zo_getr 8 10 68), (68, zo_i 23 70), (70, zo_il 4 72), (72, zo_bin (· + ·) 73), (73, zo_iald 74), (74, zo_iast 75), (75, zo_inc 4 1 78), (78, zo_goto 51), (81, zo_il 2 82), (82, zo_i2l 83), (83, zo_ls 4 85), (85, zo_i 0 86), (86, zo_is 6 88), (88, zo_il 6 90), (90, zo_il 1 91), (91, zo_icge 118 94), (94, zo_ll 4 96), (96, zo_l 16807 99), (99, zo_lbin (· * ·) 100), (100, zo_l 2147483647 103), (103, zo_ldv zlrem 104), (104, zo_ls 4 106), (106, zo_al 0 107), (107, zo_ll 4 109), (109, zo_cvv 8 218 1 112), (112, zo_inc 6 1 115), (115, zo_goto 88), (118, zo_il 3 119), (119, zo_ifne 129 122), (122, zo_al 0 123), (123, zo_cvi 8 173 0 126), (126, zo_goto 136), (129, zo_al 0 130), (130, zo_getr 8 10 133), (133, zo_i 24 135), (135, zo_iald 136), (136, zo_is 6 138), (138, zo_i 0 139), (139, zo_is 7 141), (141, zo_il 7 143), (143, zo_i 18 145), (145, zo_icge 171 148), (148, zo_al 0 149), (149, zo_getr 8 10 152), (152, zo_i 23 154), (154, zo_il 7 156), (156, zo_bin (· + ·) 157), (157, zo_al 0 158), (158, zo_getr 8 22 161), (161, zo_il 7 163), (163, zo_iald 164), (164, zo_iast 165), (165, zo_inc 7 1 168), (168, zo_goto 141), (171, zo_il 6 173), (173, zo_reti)]
def cu_X8_drawn : List (Nat × List Bool) := [(51, [true, true, true, true, true, false, false, false]), (88, [true, true, false, true, true, false, true, false]), (141, [true, false, false, false, false, false, true, true])]
set_option maxRecDepth 100000 in
set_option maxHeartbeats 4000000 in
theorem ok_X8_drawn : ∀ e ∈ tb_X8_drawn, ZOK zmt cX8_drawn RX8 1 e.1 e.2 :=
  zcons (zk_aload_n (pc := 0) (j := 0) rfl (by decide +kernel)) (
  zcons (zk_getr (pc := 1) (ci := 8) (j := 10) rfl zinX8 (by decide) zw_935 (by decide +kernel)) (
  zcons (zk_iconst (pc := 4) (z := 0) (by decide) (by decide +kernel)) (
  zcons (zk_iaload (pc := 5) (by decide +kernel)) (
  zcons (zk_ifne (pc := 6) (off := 6) (by decide) (by decide +kernel)) (
  zcons (zk_ldc (pc := 9) zw_1087 (by decide +kernel)) (
  zcons (zk_reti (pc := 11) rfl (by decide +kernel)) (
  zcons (zk_iload_n (pc := 12) (j := 1) rfl (by decide +kernel)) (
  zcons (zk_iconst (pc := 13) (z := 0) (by decide) (by decide +kernel)) (
  zcons (zk_bipush (pc := 14) (z := 60) (by decide) (by decide +kernel)) (
  zcons (zk_csi (pc := 16) 143 rfl zw_1002 zw_1003 zds_X8_in (by decide) zw_1004 zw_9 (by decide +kernel)) (
  zcons (zk_ifeq (pc := 19) (off := 22) (by decide) (by decide +kernel)) (
  zcons (zk_iload_n (pc := 22) (j := 2) rfl (by decide +kernel)) (
  zcons (zk_iconst (pc := 23) (z := 1) (by decide) (by decide +kernel)) (
  zcons (zk_ldc (pc := 24) zw_1301 (by decide +kernel)) (
  zcons (zk_csi (pc := 26) 143 rfl zw_1002 zw_1003 zds_X8_in (by decide) zw_1004 zw_9 (by decide +kernel)) (
  zcons (zk_ifeq (pc := 29) (off := 12) (by decide) (by decide +kernel)) (
  zcons (zk_iload_n (pc := 32) (j := 3) rfl (by decide +kernel)) (
  zcons (zk_iconst (pc := 33) (z := 0) (by decide) (by decide +kernel)) (
  zcons (zk_iconst (pc := 34) (z := 1) (by decide) (by decide +kernel)) (
  zcons (zk_csi (pc := 35) 143 rfl zw_1002 zw_1003 zds_X8_in (by decide) zw_1004 zw_9 (by decide +kernel)) (
  zcons (zk_ifne (pc := 38) (off := 6) (by decide) (by decide +kernel)) (
  zcons (zk_ldc (pc := 41) zw_1005 (by decide +kernel)) (
  zcons (zk_reti (pc := 43) rfl (by decide +kernel)) (
  zcons (zk_aload_n (pc := 44) (j := 0) rfl (by decide +kernel)) (
  zcons (zk_cvv (pc := 45) 194 rfl (ci := 8) rfl zw_1210 zw_1212 zsel_X8_surveys zds_X8_surveys (by decide) zw_1213 zw_9 (by decide +kernel)) (
  zcons (zk_iconst (pc := 48) (z := 0) (by decide) (by decide +kernel)) (
  zcons (zk_istore (pc := 49) (by decide +kernel)) (
  zcons (zk_iload (pc := 51) (by decide +kernel)) (
  zcons (zk_bipush (pc := 53) (z := 18) (by decide) (by decide +kernel)) (
  zcons (zk_icge (pc := 55) (off := 26) (by decide) (by decide +kernel)) (
  zcons (zk_aload_n (pc := 58) (j := 0) rfl (by decide +kernel)) (
  zcons (zk_getr (pc := 59) (ci := 8) (j := 22) rfl zinX8 (by decide) zw_947 (by decide +kernel)) (
  zcons (zk_iload (pc := 62) (by decide +kernel)) (
  zcons (zk_aload_n (pc := 64) (j := 0) rfl (by decide +kernel)) (
  zcons (zk_getr (pc := 65) (ci := 8) (j := 10) rfl zinX8 (by decide) zw_935 (by decide +kernel)) (
  zcons (zk_bipush (pc := 68) (z := 23) (by decide) (by decide +kernel)) (
  zcons (zk_iload (pc := 70) (by decide +kernel)) (
  zcons (zk_iadd (pc := 72) (by decide +kernel)) (
  zcons (zk_iaload (pc := 73) (by decide +kernel)) (
  zcons (zk_iastore (pc := 74) (by decide +kernel)) (
  zcons (zk_iinc (pc := 75) (z := 1) (by decide) (by decide +kernel)) (
  zcons (zk_goto (pc := 78) (off := (-27)) (by decide) (by decide +kernel)) (
  zcons (zk_iload_n (pc := 81) (j := 2) rfl (by decide +kernel)) (
  zcons (zk_i2l (pc := 82) (by decide +kernel)) (
  zcons (zk_lstore (pc := 83) (by decide +kernel)) (
  zcons (zk_iconst (pc := 85) (z := 0) (by decide) (by decide +kernel)) (
  zcons (zk_istore (pc := 86) (by decide +kernel)) (
  zcons (zk_iload (pc := 88) (by decide +kernel)) (
  zcons (zk_iload_n (pc := 90) (j := 1) rfl (by decide +kernel)) (
  zcons (zk_icge (pc := 91) (off := 27) (by decide) (by decide +kernel)) (
  zcons (zk_lload (pc := 94) (by decide +kernel)) (
  zcons (zk_ldc2 (pc := 96) zw_1302 (by decide +kernel)) (
  zcons (zk_lmul (pc := 99) (by decide +kernel)) (
  zcons (zk_ldc2 (pc := 100) zw_1303 (by decide +kernel)) (
  zcons (zk_lrem (pc := 103) (by decide +kernel)) (
  zcons (zk_lstore (pc := 104) (by decide +kernel)) (
  zcons (zk_aload_n (pc := 106) (j := 0) rfl (by decide +kernel)) (
  zcons (zk_lload (pc := 107) (by decide +kernel)) (
  zcons (zk_cvv (pc := 109) 218 rfl (ci := 8) rfl zw_1304 zw_1306 zsel_X8_day zds_X8_day (by decide) zw_1307 zw_9 (by decide +kernel)) (
  zcons (zk_iinc (pc := 112) (z := 1) (by decide) (by decide +kernel)) (
  zcons (zk_goto (pc := 115) (off := (-27)) (by decide) (by decide +kernel)) (
  zcons (zk_iload_n (pc := 118) (j := 3) rfl (by decide +kernel)) (
  zcons (zk_ifne (pc := 119) (off := 10) (by decide) (by decide +kernel)) (
  zcons (zk_aload_n (pc := 122) (j := 0) rfl (by decide +kernel)) (
  zcons (zk_cvi (pc := 123) 173 rfl (ci := 8) rfl zw_1178 zw_1180 zsel_X8_servedNow zds_X8_servedNow (by decide) zw_1181 zw_9 (by decide +kernel)) (
  zcons (zk_goto (pc := 126) (off := 10) (by decide) (by decide +kernel)) (
  zcons (zk_aload_n (pc := 129) (j := 0) rfl (by decide +kernel)) (
  zcons (zk_getr (pc := 130) (ci := 8) (j := 10) rfl zinX8 (by decide) zw_935 (by decide +kernel)) (
  zcons (zk_bipush (pc := 133) (z := 24) (by decide) (by decide +kernel)) (
  zcons (zk_iaload (pc := 135) (by decide +kernel)) (
  zcons (zk_istore (pc := 136) (by decide +kernel)) (
  zcons (zk_iconst (pc := 138) (z := 0) (by decide) (by decide +kernel)) (
  zcons (zk_istore (pc := 139) (by decide +kernel)) (
  zcons (zk_iload (pc := 141) (by decide +kernel)) (
  zcons (zk_bipush (pc := 143) (z := 18) (by decide) (by decide +kernel)) (
  zcons (zk_icge (pc := 145) (off := 26) (by decide) (by decide +kernel)) (
  zcons (zk_aload_n (pc := 148) (j := 0) rfl (by decide +kernel)) (
  zcons (zk_getr (pc := 149) (ci := 8) (j := 10) rfl zinX8 (by decide) zw_935 (by decide +kernel)) (
  zcons (zk_bipush (pc := 152) (z := 23) (by decide) (by decide +kernel)) (
  zcons (zk_iload (pc := 154) (by decide +kernel)) (
  zcons (zk_iadd (pc := 156) (by decide +kernel)) (
  zcons (zk_aload_n (pc := 157) (j := 0) rfl (by decide +kernel)) (
  zcons (zk_getr (pc := 158) (ci := 8) (j := 22) rfl zinX8 (by decide) zw_947 (by decide +kernel)) (
  zcons (zk_iload (pc := 161) (by decide +kernel)) (
  zcons (zk_iaload (pc := 163) (by decide +kernel)) (
  zcons (zk_iastore (pc := 164) (by decide +kernel)) (
  zcons (zk_iinc (pc := 165) (z := 1) (by decide) (by decide +kernel)) (
  zcons (zk_goto (pc := 168) (off := (-27)) (by decide) (by decide +kernel)) (
  zcons (zk_iload (pc := 171) (by decide +kernel)) (
  zcons (zk_reti (pc := 173) rfl (by decide +kernel)) (znil)))))))))))))))))))))))))))))))))))))))))))))))))))))))))))))))))))))))))))))))))))))))))))
def tb_X8_image : List (Nat × ZP) := [(0, zo_il 1 1), (1, zo_i 0 2), (2, zo_i 1 3), (3, zo_csi 143 3 6), (6, zo_ifne 12 9), (9, zo_i (-1000001) 11), (11, zo_reti), (12, zo_al 0 13), (13, zo_getr 8 10 16), (16, zo_i 0 17), (17, zo_iald 18), (18, zo_ifne 24 21), (21, zo_i (-1000002) 23), (23, zo_reti), (24, zo_i 0 25), (25, zo_is 2 26), (26, zo_il 2 27), (27, zo_i 41 29), (29, zo_icge 55 32), (32, zo_al 0 33), (33, zo_getr 8 15 36), (36, zo_i 41 38), (38, zo_il 1 39), (39, zo_bin (· * ·) 40), (40, zo_il 2 41), (41, zo_bin (· + ·) 42), (42, zo_al 0 43), (43, zo_getr 8 10 46), (46, zo_il 2 47), (47, zo_iald 48), (48, zo_iast 49), (49, zo_inc 2 1 52), (52, zo_goto 26), (55, zo_al 0 56), (56, zo_getr 8 16 59), (59, zo_il 1 60), (60, zo_i 1 61), (61, zo_zast 62), (62, zo_i 1 63), (63, zo_reti)]
def cu_X8_image : List (Nat × List Bool) := [(26, [true, true, true])]
set_option maxRecDepth 100000 in
set_option maxHeartbeats 4000000 in
theorem ok_X8_image : ∀ e ∈ tb_X8_image, ZOK zmt cX8_image RX8 1 e.1 e.2 :=
  zcons (zk_iload_n (pc := 0) (j := 1) rfl (by decide +kernel)) (
  zcons (zk_iconst (pc := 1) (z := 0) (by decide) (by decide +kernel)) (
  zcons (zk_iconst (pc := 2) (z := 1) (by decide) (by decide +kernel)) (
  zcons (zk_csi (pc := 3) 143 rfl zw_1002 zw_1003 zds_X8_in (by decide) zw_1004 zw_9 (by decide +kernel)) (
  zcons (zk_ifne (pc := 6) (off := 6) (by decide) (by decide +kernel)) (
  zcons (zk_ldc (pc := 9) zw_1005 (by decide +kernel)) (
  zcons (zk_reti (pc := 11) rfl (by decide +kernel)) (
  zcons (zk_aload_n (pc := 12) (j := 0) rfl (by decide +kernel)) (
  zcons (zk_getr (pc := 13) (ci := 8) (j := 10) rfl zinX8 (by decide) zw_935 (by decide +kernel)) (
  zcons (zk_iconst (pc := 16) (z := 0) (by decide) (by decide +kernel)) (
  zcons (zk_iaload (pc := 17) (by decide +kernel)) (
  zcons (zk_ifne (pc := 18) (off := 6) (by decide) (by decide +kernel)) (
  zcons (zk_ldc (pc := 21) zw_1087 (by decide +kernel)) (
  zcons (zk_reti (pc := 23) rfl (by decide +kernel)) (
  zcons (zk_iconst (pc := 24) (z := 0) (by decide) (by decide +kernel)) (
  zcons (zk_istore_n (pc := 25) (j := 2) rfl (by decide +kernel)) (
  zcons (zk_iload_n (pc := 26) (j := 2) rfl (by decide +kernel)) (
  zcons (zk_bipush (pc := 27) (z := 41) (by decide) (by decide +kernel)) (
  zcons (zk_icge (pc := 29) (off := 26) (by decide) (by decide +kernel)) (
  zcons (zk_aload_n (pc := 32) (j := 0) rfl (by decide +kernel)) (
  zcons (zk_getr (pc := 33) (ci := 8) (j := 15) rfl zinX8 (by decide) zw_940 (by decide +kernel)) (
  zcons (zk_bipush (pc := 36) (z := 41) (by decide) (by decide +kernel)) (
  zcons (zk_iload_n (pc := 38) (j := 1) rfl (by decide +kernel)) (
  zcons (zk_imul (pc := 39) (by decide +kernel)) (
  zcons (zk_iload_n (pc := 40) (j := 2) rfl (by decide +kernel)) (
  zcons (zk_iadd (pc := 41) (by decide +kernel)) (
  zcons (zk_aload_n (pc := 42) (j := 0) rfl (by decide +kernel)) (
  zcons (zk_getr (pc := 43) (ci := 8) (j := 10) rfl zinX8 (by decide) zw_935 (by decide +kernel)) (
  zcons (zk_iload_n (pc := 46) (j := 2) rfl (by decide +kernel)) (
  zcons (zk_iaload (pc := 47) (by decide +kernel)) (
  zcons (zk_iastore (pc := 48) (by decide +kernel)) (
  zcons (zk_iinc (pc := 49) (z := 1) (by decide) (by decide +kernel)) (
  zcons (zk_goto (pc := 52) (off := (-26)) (by decide) (by decide +kernel)) (
  zcons (zk_aload_n (pc := 55) (j := 0) rfl (by decide +kernel)) (
  zcons (zk_getr (pc := 56) (ci := 8) (j := 16) rfl zinX8 (by decide) zw_941 (by decide +kernel)) (
  zcons (zk_iload_n (pc := 59) (j := 1) rfl (by decide +kernel)) (
  zcons (zk_iconst (pc := 60) (z := 1) (by decide) (by decide +kernel)) (
  zcons (zk_bastorez (pc := 61) (by decide +kernel)) (
  zcons (zk_iconst (pc := 62) (z := 1) (by decide) (by decide +kernel)) (
  zcons (zk_reti (pc := 63) rfl (by decide +kernel)) (znil))))))))))))))))))))))))))))))))))))))))
def tb_X8_restore : List (Nat × ZP) := [(0, zo_il 1 1), (1, zo_i 0 2), (2, zo_i 1 3), (3, zo_csi 143 3 6), (6, zo_ifne 12 9), (9, zo_i (-1000001) 11), (11, zo_reti), (12, zo_al 0 13), (13, zo_getr 8 16 16), (16, zo_il 1 17), (17, zo_zald 18), (18, zo_ifne 24 21), (21, zo_i (-1000002) 23), (23, zo_reti), (24, zo_i 0 25), (25, zo_is 2 26), (26, zo_il 2 27), (27, zo_i 41 29), (29, zo_icge 55 32), (32, zo_al 0 33), (33, zo_getr 8 10 36), (36, zo_il 2 37), (37, zo_al 0 38), (38, zo_getr 8 15 41), (41, zo_i 41 43), (43, zo_il 1 44), (44, zo_bin (· * ·) 45), (45, zo_il 2 46), (46, zo_bin (· + ·) 47), (47, zo_iald 48), (48, zo_iast 49), (49, zo_inc 2 1 52), (52, zo_goto 26), (55, zo_al 0 56), (56, zo_cvv 8 164 0 59), (59, zo_al 0 60), (60, zo_i 0 61), (61, zo_put 8 14 64), (64, zo_i 1 65), (65, zo_reti)]
def cu_X8_restore : List (Nat × List Bool) := [(26, [true, true, true])]
set_option maxRecDepth 100000 in
set_option maxHeartbeats 4000000 in
theorem ok_X8_restore : ∀ e ∈ tb_X8_restore, ZOK zmt cX8_restore RX8 1 e.1 e.2 :=
  zcons (zk_iload_n (pc := 0) (j := 1) rfl (by decide +kernel)) (
  zcons (zk_iconst (pc := 1) (z := 0) (by decide) (by decide +kernel)) (
  zcons (zk_iconst (pc := 2) (z := 1) (by decide) (by decide +kernel)) (
  zcons (zk_csi (pc := 3) 143 rfl zw_1002 zw_1003 zds_X8_in (by decide) zw_1004 zw_9 (by decide +kernel)) (
  zcons (zk_ifne (pc := 6) (off := 6) (by decide) (by decide +kernel)) (
  zcons (zk_ldc (pc := 9) zw_1005 (by decide +kernel)) (
  zcons (zk_reti (pc := 11) rfl (by decide +kernel)) (
  zcons (zk_aload_n (pc := 12) (j := 0) rfl (by decide +kernel)) (
  zcons (zk_getr (pc := 13) (ci := 8) (j := 16) rfl zinX8 (by decide) zw_941 (by decide +kernel)) (
  zcons (zk_iload_n (pc := 16) (j := 1) rfl (by decide +kernel)) (
  zcons (zk_baloadz (pc := 17) (by decide +kernel)) (
  zcons (zk_ifne (pc := 18) (off := 6) (by decide) (by decide +kernel)) (
  zcons (zk_ldc (pc := 21) zw_1087 (by decide +kernel)) (
  zcons (zk_reti (pc := 23) rfl (by decide +kernel)) (
  zcons (zk_iconst (pc := 24) (z := 0) (by decide) (by decide +kernel)) (
  zcons (zk_istore_n (pc := 25) (j := 2) rfl (by decide +kernel)) (
  zcons (zk_iload_n (pc := 26) (j := 2) rfl (by decide +kernel)) (
  zcons (zk_bipush (pc := 27) (z := 41) (by decide) (by decide +kernel)) (
  zcons (zk_icge (pc := 29) (off := 26) (by decide) (by decide +kernel)) (
  zcons (zk_aload_n (pc := 32) (j := 0) rfl (by decide +kernel)) (
  zcons (zk_getr (pc := 33) (ci := 8) (j := 10) rfl zinX8 (by decide) zw_935 (by decide +kernel)) (
  zcons (zk_iload_n (pc := 36) (j := 2) rfl (by decide +kernel)) (
  zcons (zk_aload_n (pc := 37) (j := 0) rfl (by decide +kernel)) (
  zcons (zk_getr (pc := 38) (ci := 8) (j := 15) rfl zinX8 (by decide) zw_940 (by decide +kernel)) (
  zcons (zk_bipush (pc := 41) (z := 41) (by decide) (by decide +kernel)) (
  zcons (zk_iload_n (pc := 43) (j := 1) rfl (by decide +kernel)) (
  zcons (zk_imul (pc := 44) (by decide +kernel)) (
  zcons (zk_iload_n (pc := 45) (j := 2) rfl (by decide +kernel)) (
  zcons (zk_iadd (pc := 46) (by decide +kernel)) (
  zcons (zk_iaload (pc := 47) (by decide +kernel)) (
  zcons (zk_iastore (pc := 48) (by decide +kernel)) (
  zcons (zk_iinc (pc := 49) (z := 1) (by decide) (by decide +kernel)) (
  zcons (zk_goto (pc := 52) (off := (-26)) (by decide) (by decide +kernel)) (
  zcons (zk_aload_n (pc := 55) (j := 0) rfl (by decide +kernel)) (
  zcons (zk_cvv (pc := 56) 164 rfl (ci := 8) rfl zw_1075 zw_1077 zsel_X8_joins zds_X8_joins (by decide) zw_1078 zw_9 (by decide +kernel)) (
  zcons (zk_aload_n (pc := 59) (j := 0) rfl (by decide +kernel)) (
  zcons (zk_iconst (pc := 60) (z := 0) (by decide) (by decide +kernel)) (
  zcons (zk_put (pc := 61) (ci := 8) (j := 14) rfl zinX8 (by decide) zw_939 tyX8 tyX8_ok nmX8 rfl (by decide +kernel) (by decide +kernel)) (
  zcons (zk_iconst (pc := 64) (z := 1) (by decide) (by decide +kernel)) (
  zcons (zk_reti (pc := 65) rfl (by decide +kernel)) (znil))))))))))))))))))))))))))))))))))))))))
def tb_X8_kind : List (Nat × ZP) := [(0, zo_al 0 1), (1, zo_il 1 2), (2, zo_cvi 8 169 1 5), (5, zo_ifeq 19 8), (8, zo_al 0 9), (9, zo_getr 8 10 12), (12, zo_i 3 13), (13, zo_il 1 14), (14, zo_bin (· + ·) 15), (15, zo_iald 16), (16, zo_goto 21), (19, zo_i (-1000001) 21), (21, zo_reti)]
def cu_X8_kind : List (Nat × List Bool) := []
set_option maxRecDepth 100000 in
set_option maxHeartbeats 4000000 in
theorem ok_X8_kind : ∀ e ∈ tb_X8_kind, ZOK zmt cX8_kind RX8 1 e.1 e.2 :=
  zcons (zk_aload_n (pc := 0) (j := 0) rfl (by decide +kernel)) (
  zcons (zk_iload_n (pc := 1) (j := 1) rfl (by decide +kernel)) (
  zcons (zk_cvi (pc := 2) 169 rfl (ci := 8) rfl zw_1149 zw_1151 zsel_X8_isCell zds_X8_isCell (by decide) zw_1152 zw_9 (by decide +kernel)) (
  zcons (zk_ifeq (pc := 5) (off := 14) (by decide) (by decide +kernel)) (
  zcons (zk_aload_n (pc := 8) (j := 0) rfl (by decide +kernel)) (
  zcons (zk_getr (pc := 9) (ci := 8) (j := 10) rfl zinX8 (by decide) zw_935 (by decide +kernel)) (
  zcons (zk_iconst (pc := 12) (z := 3) (by decide) (by decide +kernel)) (
  zcons (zk_iload_n (pc := 13) (j := 1) rfl (by decide +kernel)) (
  zcons (zk_iadd (pc := 14) (by decide +kernel)) (
  zcons (zk_iaload (pc := 15) (by decide +kernel)) (
  zcons (zk_goto (pc := 16) (off := 5) (by decide) (by decide +kernel)) (
  zcons (zk_ldc (pc := 19) zw_1005 (by decide +kernel)) (
  zcons (zk_reti (pc := 21) rfl (by decide +kernel)) (znil)))))))))))))
def tb_X8_as : List (Nat × ZP) := [(0, zo_al 0 1), (1, zo_il 1 2), (2, zo_cvi 8 169 1 5), (5, zo_ifeq 17 8), (8, zo_il 2 9), (9, zo_i 0 10), (10, zo_i 5 11), (11, zo_csi 143 3 14), (14, zo_ifne 20 17), (17, zo_i (-1000001) 19), (19, zo_reti), (20, zo_al 0 21), (21, zo_getr 8 10 24), (24, zo_i 3 25), (25, zo_il 1 26), (26, zo_bin (· + ·) 27), (27, zo_iald 28), (28, zo_is 3 29), (29, zo_il 2 30), (30, zo_ifeq 58 33), (33, zo_il 2 34), (34, zo_il 3 35), (35, zo_iceq 58 38), (38, zo_il 2 39), (39, zo_i 1 40), (40, zo_icne 48 43), (43, zo_il 3 44), (44, zo_i 4 45), (45, zo_iclt 58 48), (48, zo_il 2 49), (49, zo_i 4 50), (50, zo_icne 62 53), (53, zo_il 3 54), (54, zo_i 5 55), (55, zo_icne 62 58), (58, zo_i 1 59), (59, zo_goto 63), (62, zo_i 0 63), (63, zo_is 4 65), (65, zo_il 4 67), (67, zo_ifne 76 70), (70, zo_al 0 71), (71, zo_i 3 72), (72, zo_cvi 8 147 1 75), (75, zo_reti), (76, zo_al 0 77), (77, zo_i 0 78), (78, zo_put 8 4 81), (81, zo_il 1 82), (82, zo_reti)]
def cu_X8_as : List (Nat × List Bool) := []
set_option maxRecDepth 100000 in
set_option maxHeartbeats 4000000 in
theorem ok_X8_as : ∀ e ∈ tb_X8_as, ZOK zmt cX8_as RX8 1 e.1 e.2 :=
  zcons (zk_aload_n (pc := 0) (j := 0) rfl (by decide +kernel)) (
  zcons (zk_iload_n (pc := 1) (j := 1) rfl (by decide +kernel)) (
  zcons (zk_cvi (pc := 2) 169 rfl (ci := 8) rfl zw_1149 zw_1151 zsel_X8_isCell zds_X8_isCell (by decide) zw_1152 zw_9 (by decide +kernel)) (
  zcons (zk_ifeq (pc := 5) (off := 12) (by decide) (by decide +kernel)) (
  zcons (zk_iload_n (pc := 8) (j := 2) rfl (by decide +kernel)) (
  zcons (zk_iconst (pc := 9) (z := 0) (by decide) (by decide +kernel)) (
  zcons (zk_iconst (pc := 10) (z := 5) (by decide) (by decide +kernel)) (
  zcons (zk_csi (pc := 11) 143 rfl zw_1002 zw_1003 zds_X8_in (by decide) zw_1004 zw_9 (by decide +kernel)) (
  zcons (zk_ifne (pc := 14) (off := 6) (by decide) (by decide +kernel)) (
  zcons (zk_ldc (pc := 17) zw_1005 (by decide +kernel)) (
  zcons (zk_reti (pc := 19) rfl (by decide +kernel)) (
  zcons (zk_aload_n (pc := 20) (j := 0) rfl (by decide +kernel)) (
  zcons (zk_getr (pc := 21) (ci := 8) (j := 10) rfl zinX8 (by decide) zw_935 (by decide +kernel)) (
  zcons (zk_iconst (pc := 24) (z := 3) (by decide) (by decide +kernel)) (
  zcons (zk_iload_n (pc := 25) (j := 1) rfl (by decide +kernel)) (
  zcons (zk_iadd (pc := 26) (by decide +kernel)) (
  zcons (zk_iaload (pc := 27) (by decide +kernel)) (
  zcons (zk_istore_n (pc := 28) (j := 3) rfl (by decide +kernel)) (
  zcons (zk_iload_n (pc := 29) (j := 2) rfl (by decide +kernel)) (
  zcons (zk_ifeq (pc := 30) (off := 28) (by decide) (by decide +kernel)) (
  zcons (zk_iload_n (pc := 33) (j := 2) rfl (by decide +kernel)) (
  zcons (zk_iload_n (pc := 34) (j := 3) rfl (by decide +kernel)) (
  zcons (zk_iceq (pc := 35) (off := 23) (by decide) (by decide +kernel)) (
  zcons (zk_iload_n (pc := 38) (j := 2) rfl (by decide +kernel)) (
  zcons (zk_iconst (pc := 39) (z := 1) (by decide) (by decide +kernel)) (
  zcons (zk_icne (pc := 40) (off := 8) (by decide) (by decide +kernel)) (
  zcons (zk_iload_n (pc := 43) (j := 3) rfl (by decide +kernel)) (
  zcons (zk_iconst (pc := 44) (z := 4) (by decide) (by decide +kernel)) (
  zcons (zk_iclt (pc := 45) (off := 13) (by decide) (by decide +kernel)) (
  zcons (zk_iload_n (pc := 48) (j := 2) rfl (by decide +kernel)) (
  zcons (zk_iconst (pc := 49) (z := 4) (by decide) (by decide +kernel)) (
  zcons (zk_icne (pc := 50) (off := 12) (by decide) (by decide +kernel)) (
  zcons (zk_iload_n (pc := 53) (j := 3) rfl (by decide +kernel)) (
  zcons (zk_iconst (pc := 54) (z := 5) (by decide) (by decide +kernel)) (
  zcons (zk_icne (pc := 55) (off := 7) (by decide) (by decide +kernel)) (
  zcons (zk_iconst (pc := 58) (z := 1) (by decide) (by decide +kernel)) (
  zcons (zk_goto (pc := 59) (off := 4) (by decide) (by decide +kernel)) (
  zcons (zk_iconst (pc := 62) (z := 0) (by decide) (by decide +kernel)) (
  zcons (zk_istore (pc := 63) (by decide +kernel)) (
  zcons (zk_iload (pc := 65) (by decide +kernel)) (
  zcons (zk_ifne (pc := 67) (off := 9) (by decide) (by decide +kernel)) (
  zcons (zk_aload_n (pc := 70) (j := 0) rfl (by decide +kernel)) (
  zcons (zk_iconst (pc := 71) (z := 3) (by decide) (by decide +kernel)) (
  zcons (zk_cvi (pc := 72) 147 rfl (ci := 8) rfl zw_1006 zw_1008 zsel_X8_finds zds_X8_finds (by decide) zw_1009 zw_9 (by decide +kernel)) (
  zcons (zk_reti (pc := 75) rfl (by decide +kernel)) (
  zcons (zk_aload_n (pc := 76) (j := 0) rfl (by decide +kernel)) (
  zcons (zk_iconst (pc := 77) (z := 0) (by decide) (by decide +kernel)) (
  zcons (zk_put (pc := 78) (ci := 8) (j := 4) rfl zinX8 (by decide) zw_929 tyX8 tyX8_ok nmX8 rfl (by decide +kernel) (by decide +kernel)) (
  zcons (zk_iload_n (pc := 81) (j := 1) rfl (by decide +kernel)) (
  zcons (zk_reti (pc := 82) rfl (by decide +kernel)) (znil))))))))))))))))))))))))))))))))))))))))))))))))))
def tb_X8_leaves : List (Nat × ZP) := [(0, zo_al 0 1), (1, zo_get 8 19 4), (4, zo_i 16 6), (6, zo_icge 29 9), (9, zo_al 0 10), (10, zo_getr 8 18 13), (13, zo_al 0 14), (14, zo_get 8 19 17), (17, zo_il 1 18), (18, zo_iast 19), (19, zo_al 0 20), (20, zo_dup 21), (21, zo_get 8 19 24), (24, zo_i 1 25), (25, zo_bin (· + ·) 26), (26, zo_put 8 19 29), (29, zo_retv)]
def cu_X8_leaves : List (Nat × List Bool) := []
set_option maxRecDepth 100000 in
set_option maxHeartbeats 4000000 in
theorem ok_X8_leaves : ∀ e ∈ tb_X8_leaves, ZOK zmt cX8_leaves RX8 0 e.1 e.2 :=
  zcons (zk_aload_n (pc := 0) (j := 0) rfl (by decide +kernel)) (
  zcons (zk_get (pc := 1) (ci := 8) (j := 19) rfl zinX8 (by decide) zw_944 (by decide +kernel)) (
  zcons (zk_bipush (pc := 4) (z := 16) (by decide) (by decide +kernel)) (
  zcons (zk_icge (pc := 6) (off := 23) (by decide) (by decide +kernel)) (
  zcons (zk_aload_n (pc := 9) (j := 0) rfl (by decide +kernel)) (
  zcons (zk_getr (pc := 10) (ci := 8) (j := 18) rfl zinX8 (by decide) zw_943 (by decide +kernel)) (
  zcons (zk_aload_n (pc := 13) (j := 0) rfl (by decide +kernel)) (
  zcons (zk_get (pc := 14) (ci := 8) (j := 19) rfl zinX8 (by decide) zw_944 (by decide +kernel)) (
  zcons (zk_iload_n (pc := 17) (j := 1) rfl (by decide +kernel)) (
  zcons (zk_iastore (pc := 18) (by decide +kernel)) (
  zcons (zk_aload_n (pc := 19) (j := 0) rfl (by decide +kernel)) (
  zcons (zk_dup (pc := 20) (by decide +kernel)) (
  zcons (zk_get (pc := 21) (ci := 8) (j := 19) rfl zinX8 (by decide) zw_944 (by decide +kernel)) (
  zcons (zk_iconst (pc := 24) (z := 1) (by decide) (by decide +kernel)) (
  zcons (zk_iadd (pc := 25) (by decide +kernel)) (
  zcons (zk_put (pc := 26) (ci := 8) (j := 19) rfl zinX8 (by decide) zw_944 tyX8 tyX8_ok nmX8 rfl (by decide +kernel) (by decide +kernel)) (
  zcons (zk_retv (pc := 29) rfl (by decide +kernel)) (znil)))))))))))))))))
def tb_X8_markLow : List (Nat × ZP) := [(0, zo_al 0 1), (1, zo_getr 8 10 4), (4, zo_i 3 5), (5, zo_il 1 6), (6, zo_bin (· + ·) 7), (7, zo_iald 8), (8, zo_is 2 9), (9, zo_il 2 10), (10, zo_i 2 11), (11, zo_icne 23 14), (14, zo_al 0 15), (15, zo_i 24 17), (17, zo_cvv 8 224 1 20), (20, zo_goto 34), (23, zo_il 2 24), (24, zo_i 3 25), (25, zo_icne 34 28), (28, zo_al 0 29), (29, zo_i 22 31), (31, zo_cvv 8 224 1 34), (34, zo_al 0 35), (35, zo_i 21 37), (37, zo_cvv 8 224 1 40), (40, zo_al 0 41), (41, zo_i 20 43), (43, zo_cvv 8 224 1 46), (46, zo_il 1 47), (47, zo_al 0 48), (48, zo_getr 8 10 51), (51, zo_i 23 53), (53, zo_iald 54), (54, zo_bin (· + ·) 55), (55, zo_is 3 56), (56, zo_il 2 57), (57, zo_i 2 58), (58, zo_icne 67 61), (61, zo_il 3 62), (62, zo_il 3 63), (63, zo_bin (· + ·) 64), (64, zo_goto 81), (67, zo_il 2 68), (68, zo_i 3 69), (69, zo_icne 80 72), (72, zo_il 3 73), (73, zo_i 1000 76), (76, zo_bin (· - ·) 77), (77, zo_goto 81), (80, zo_il 3 81), (81, zo_reti)]
def cu_X8_markLow : List (Nat × List Bool) := []
set_option maxRecDepth 100000 in
set_option maxHeartbeats 4000000 in
theorem ok_X8_markLow : ∀ e ∈ tb_X8_markLow, ZOK zmt cX8_markLow RX8 1 e.1 e.2 :=
  zcons (zk_aload_n (pc := 0) (j := 0) rfl (by decide +kernel)) (
  zcons (zk_getr (pc := 1) (ci := 8) (j := 10) rfl zinX8 (by decide) zw_935 (by decide +kernel)) (
  zcons (zk_iconst (pc := 4) (z := 3) (by decide) (by decide +kernel)) (
  zcons (zk_iload_n (pc := 5) (j := 1) rfl (by decide +kernel)) (
  zcons (zk_iadd (pc := 6) (by decide +kernel)) (
  zcons (zk_iaload (pc := 7) (by decide +kernel)) (
  zcons (zk_istore_n (pc := 8) (j := 2) rfl (by decide +kernel)) (
  zcons (zk_iload_n (pc := 9) (j := 2) rfl (by decide +kernel)) (
  zcons (zk_iconst (pc := 10) (z := 2) (by decide) (by decide +kernel)) (
  zcons (zk_icne (pc := 11) (off := 12) (by decide) (by decide +kernel)) (
  zcons (zk_aload_n (pc := 14) (j := 0) rfl (by decide +kernel)) (
  zcons (zk_bipush (pc := 15) (z := 24) (by decide) (by decide +kernel)) (
  zcons (zk_cvv (pc := 17) 224 rfl (ci := 8) rfl zw_1333 zw_1335 zsel_X8_leaves zds_X8_leaves (by decide) zw_1336 zw_9 (by decide +kernel)) (
  zcons (zk_goto (pc := 20) (off := 14) (by decide) (by decide +kernel)) (
  zcons (zk_iload_n (pc := 23) (j := 2) rfl (by decide +kernel)) (
  zcons (zk_iconst (pc := 24) (z := 3) (by decide) (by decide +kernel)) (
  zcons (zk_icne (pc := 25) (off := 9) (by decide) (by decide +kernel)) (
  zcons (zk_aload_n (pc := 28) (j := 0) rfl (by decide +kernel)) (
  zcons (zk_bipush (pc := 29) (z := 22) (by decide) (by decide +kernel)) (
  zcons (zk_cvv (pc := 31) 224 rfl (ci := 8) rfl zw_1333 zw_1335 zsel_X8_leaves zds_X8_leaves (by decide) zw_1336 zw_9 (by decide +kernel)) (
  zcons (zk_aload_n (pc := 34) (j := 0) rfl (by decide +kernel)) (
  zcons (zk_bipush (pc := 35) (z := 21) (by decide) (by decide +kernel)) (
  zcons (zk_cvv (pc := 37) 224 rfl (ci := 8) rfl zw_1333 zw_1335 zsel_X8_leaves zds_X8_leaves (by decide) zw_1336 zw_9 (by decide +kernel)) (
  zcons (zk_aload_n (pc := 40) (j := 0) rfl (by decide +kernel)) (
  zcons (zk_bipush (pc := 41) (z := 20) (by decide) (by decide +kernel)) (
  zcons (zk_cvv (pc := 43) 224 rfl (ci := 8) rfl zw_1333 zw_1335 zsel_X8_leaves zds_X8_leaves (by decide) zw_1336 zw_9 (by decide +kernel)) (
  zcons (zk_iload_n (pc := 46) (j := 1) rfl (by decide +kernel)) (
  zcons (zk_aload_n (pc := 47) (j := 0) rfl (by decide +kernel)) (
  zcons (zk_getr (pc := 48) (ci := 8) (j := 10) rfl zinX8 (by decide) zw_935 (by decide +kernel)) (
  zcons (zk_bipush (pc := 51) (z := 23) (by decide) (by decide +kernel)) (
  zcons (zk_iaload (pc := 53) (by decide +kernel)) (
  zcons (zk_iadd (pc := 54) (by decide +kernel)) (
  zcons (zk_istore_n (pc := 55) (j := 3) rfl (by decide +kernel)) (
  zcons (zk_iload_n (pc := 56) (j := 2) rfl (by decide +kernel)) (
  zcons (zk_iconst (pc := 57) (z := 2) (by decide) (by decide +kernel)) (
  zcons (zk_icne (pc := 58) (off := 9) (by decide) (by decide +kernel)) (
  zcons (zk_iload_n (pc := 61) (j := 3) rfl (by decide +kernel)) (
  zcons (zk_iload_n (pc := 62) (j := 3) rfl (by decide +kernel)) (
  zcons (zk_iadd (pc := 63) (by decide +kernel)) (
  zcons (zk_goto (pc := 64) (off := 17) (by decide) (by decide +kernel)) (
  zcons (zk_iload_n (pc := 67) (j := 2) rfl (by decide +kernel)) (
  zcons (zk_iconst (pc := 68) (z := 3) (by decide) (by decide +kernel)) (
  zcons (zk_icne (pc := 69) (off := 11) (by decide) (by decide +kernel)) (
  zcons (zk_iload_n (pc := 72) (j := 3) rfl (by decide +kernel)) (
  zcons (zk_sipush (pc := 73) (z := 1000) (by decide) (by decide +kernel)) (
  zcons (zk_isub (pc := 76) (by decide +kernel)) (
  zcons (zk_goto (pc := 77) (off := 4) (by decide) (by decide +kernel)) (
  zcons (zk_iload_n (pc := 80) (j := 3) rfl (by decide +kernel)) (
  zcons (zk_reti (pc := 81) rfl (by decide +kernel)) (znil)))))))))))))))))))))))))))))))))))))))))))))))))
def tb_X8_sizeHigh : List (Nat × ZP) := [(0, zo_al 0 1), (1, zo_getr 8 10 4), (4, zo_i 3 5), (5, zo_il 1 6), (6, zo_bin (· + ·) 7), (7, zo_iald 8), (8, zo_i 5 9), (9, zo_icne 16 12), (12, zo_i 1 13), (13, zo_goto 17), (16, zo_i 0 17), (17, zo_is 2 18), (18, zo_il 2 19), (19, zo_ifeq 28 22), (22, zo_al 0 23), (23, zo_i 14 25), (25, zo_cvv 8 224 1 28), (28, zo_al 0 29), (29, zo_i 13 31), (31, zo_cvv 8 224 1 34), (34, zo_al 0 35), (35, zo_i 10 37), (37, zo_cvv 8 224 1 40), (40, zo_al 0 41), (41, zo_getr 8 10 44), (44, zo_i 31 46), (46, zo_il 1 47), (47, zo_bin (· + ·) 48), (48, zo_iald 49), (49, zo_i 100 51), (51, zo_bin (· - ·) 52), (52, zo_is 3 53), (53, zo_il 2 54), (54, zo_ifeq 63 57), (57, zo_il 3 58), (58, zo_il 3 59), (59, zo_bin (· + ·) 60), (60, zo_goto 64), (63, zo_il 3 64), (64, zo_reti)]
def cu_X8_sizeHigh : List (Nat × List Bool) := []
set_option maxRecDepth 100000 in
set_option maxHeartbeats 4000000 in
theorem ok_X8_sizeHigh : ∀ e ∈ tb_X8_sizeHigh, ZOK zmt cX8_sizeHigh RX8 1 e.1 e.2 :=
  zcons (zk_aload_n (pc := 0) (j := 0) rfl (by decide +kernel)) (
  zcons (zk_getr (pc := 1) (ci := 8) (j := 10) rfl zinX8 (by decide) zw_935 (by decide +kernel)) (
  zcons (zk_iconst (pc := 4) (z := 3) (by decide) (by decide +kernel)) (
  zcons (zk_iload_n (pc := 5) (j := 1) rfl (by decide +kernel)) (
  zcons (zk_iadd (pc := 6) (by decide +kernel)) (
  zcons (zk_iaload (pc := 7) (by decide +kernel)) (
  zcons (zk_iconst (pc := 8) (z := 5) (by decide) (by decide +kernel)) (
  zcons (zk_icne (pc := 9) (off := 7) (by decide) (by decide +kernel)) (
  zcons (zk_iconst (pc := 12) (z := 1) (by decide) (by decide +kernel)) (
  zcons (zk_goto (pc := 13) (off := 4) (by decide) (by decide +kernel)) (
  zcons (zk_iconst (pc := 16) (z := 0) (by decide) (by decide +kernel)) (
  zcons (zk_istore_n (pc := 17) (j := 2) rfl (by decide +kernel)) (
  zcons (zk_iload_n (pc := 18) (j := 2) rfl (by decide +kernel)) (
  zcons (zk_ifeq (pc := 19) (off := 9) (by decide) (by decide +kernel)) (
  zcons (zk_aload_n (pc := 22) (j := 0) rfl (by decide +kernel)) (
  zcons (zk_bipush (pc := 23) (z := 14) (by decide) (by decide +kernel)) (
  zcons (zk_cvv (pc := 25) 224 rfl (ci := 8) rfl zw_1333 zw_1335 zsel_X8_leaves zds_X8_leaves (by decide) zw_1336 zw_9 (by decide +kernel)) (
  zcons (zk_aload_n (pc := 28) (j := 0) rfl (by decide +kernel)) (
  zcons (zk_bipush (pc := 29) (z := 13) (by decide) (by decide +kernel)) (
  zcons (zk_cvv (pc := 31) 224 rfl (ci := 8) rfl zw_1333 zw_1335 zsel_X8_leaves zds_X8_leaves (by decide) zw_1336 zw_9 (by decide +kernel)) (
  zcons (zk_aload_n (pc := 34) (j := 0) rfl (by decide +kernel)) (
  zcons (zk_bipush (pc := 35) (z := 10) (by decide) (by decide +kernel)) (
  zcons (zk_cvv (pc := 37) 224 rfl (ci := 8) rfl zw_1333 zw_1335 zsel_X8_leaves zds_X8_leaves (by decide) zw_1336 zw_9 (by decide +kernel)) (
  zcons (zk_aload_n (pc := 40) (j := 0) rfl (by decide +kernel)) (
  zcons (zk_getr (pc := 41) (ci := 8) (j := 10) rfl zinX8 (by decide) zw_935 (by decide +kernel)) (
  zcons (zk_bipush (pc := 44) (z := 31) (by decide) (by decide +kernel)) (
  zcons (zk_iload_n (pc := 46) (j := 1) rfl (by decide +kernel)) (
  zcons (zk_iadd (pc := 47) (by decide +kernel)) (
  zcons (zk_iaload (pc := 48) (by decide +kernel)) (
  zcons (zk_bipush (pc := 49) (z := 100) (by decide) (by decide +kernel)) (
  zcons (zk_isub (pc := 51) (by decide +kernel)) (
  zcons (zk_istore_n (pc := 52) (j := 3) rfl (by decide +kernel)) (
  zcons (zk_iload_n (pc := 53) (j := 2) rfl (by decide +kernel)) (
  zcons (zk_ifeq (pc := 54) (off := 9) (by decide) (by decide +kernel)) (
  zcons (zk_iload_n (pc := 57) (j := 3) rfl (by decide +kernel)) (
  zcons (zk_iload_n (pc := 58) (j := 3) rfl (by decide +kernel)) (
  zcons (zk_iadd (pc := 59) (by decide +kernel)) (
  zcons (zk_goto (pc := 60) (off := 4) (by decide) (by decide +kernel)) (
  zcons (zk_iload_n (pc := 63) (j := 3) rfl (by decide +kernel)) (
  zcons (zk_reti (pc := 64) rfl (by decide +kernel)) (znil))))))))))))))))))))))))))))))))))))))))

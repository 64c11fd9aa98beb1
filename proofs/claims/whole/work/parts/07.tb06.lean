def tb_X8_reach : List (Nat × ZP) := [(0, zo_i 1 1), (1, zo_il 2 2), (2, zo_bin zshl 3), (3, zo_is 3 4), (4, zo_i 0 5), (5, zo_is 4 7), (7, zo_il 3 8), (8, zo_il 4 10), (10, zo_iceq 65 13), (13, zo_il 3 14), (14, zo_is 4 16), (16, zo_i 0 17), (17, zo_is 5 19), (19, zo_il 5 21), (21, zo_al 0 22), (22, zo_getr 8 10 25), (25, zo_i 0 26), (26, zo_iald 27), (27, zo_icge 62 30), (30, zo_il 3 31), (31, zo_il 4 33), (33, zo_il 5 35), (35, zo_csi 144 2 38), (38, zo_ifeq 53 41), (41, zo_al 0 42), (42, zo_getr 8 12 45), (45, zo_il 5 47), (47, zo_iald 48), (48, zo_il 1 49), (49, zo_bin (· &&& ·) 50), (50, zo_goto 54), (53, zo_i 0 54), (54, zo_bin (· ||| ·) 55), (55, zo_is 3 56), (56, zo_inc 5 1 59), (59, zo_goto 19), (62, zo_goto 7), (65, zo_il 3 66), (66, zo_reti)]
def cu_X8_reach : List (Nat × List Bool) := [(7, [true, true, false, true, true, false]), (19, [true, true, false, true, true, true])]
set_option maxRecDepth 100000 in
set_option maxHeartbeats 4000000 in
theorem ok_X8_reach : ∀ e ∈ tb_X8_reach, ZOK zmt cX8_reach RX8 1 e.1 e.2 :=
  zcons (zk_iconst (pc := 0) (z := 1) (by decide) (by decide +kernel)) (
  zcons (zk_iload_n (pc := 1) (j := 2) rfl (by decide +kernel)) (
  zcons (zk_ishl (pc := 2) (by decide +kernel)) (
  zcons (zk_istore_n (pc := 3) (j := 3) rfl (by decide +kernel)) (
  zcons (zk_iconst (pc := 4) (z := 0) (by decide) (by decide +kernel)) (
  zcons (zk_istore (pc := 5) (by decide +kernel)) (
  zcons (zk_iload_n (pc := 7) (j := 3) rfl (by decide +kernel)) (
  zcons (zk_iload (pc := 8) (by decide +kernel)) (
  zcons (zk_iceq (pc := 10) (off := 55) (by decide) (by decide +kernel)) (
  zcons (zk_iload_n (pc := 13) (j := 3) rfl (by decide +kernel)) (
  zcons (zk_istore (pc := 14) (by decide +kernel)) (
  zcons (zk_iconst (pc := 16) (z := 0) (by decide) (by decide +kernel)) (
  zcons (zk_istore (pc := 17) (by decide +kernel)) (
  zcons (zk_iload (pc := 19) (by decide +kernel)) (
  zcons (zk_aload_n (pc := 21) (j := 0) rfl (by decide +kernel)) (
  zcons (zk_getr (pc := 22) (ci := 8) (j := 10) rfl zinX8 (by decide) zw_935 (by decide +kernel)) (
  zcons (zk_iconst (pc := 25) (z := 0) (by decide) (by decide +kernel)) (
  zcons (zk_iaload (pc := 26) (by decide +kernel)) (
  zcons (zk_icge (pc := 27) (off := 35) (by decide) (by decide +kernel)) (
  zcons (zk_iload_n (pc := 30) (j := 3) rfl (by decide +kernel)) (
  zcons (zk_iload (pc := 31) (by decide +kernel)) (
  zcons (zk_iload (pc := 33) (by decide +kernel)) (
  zcons (zk_csi (pc := 35) 144 rfl zw_1115 zw_1116 zds_X8_has (by decide) zw_1117 zw_9 (by decide +kernel)) (
  zcons (zk_ifeq (pc := 38) (off := 15) (by decide) (by decide +kernel)) (
  zcons (zk_aload_n (pc := 41) (j := 0) rfl (by decide +kernel)) (
  zcons (zk_getr (pc := 42) (ci := 8) (j := 12) rfl zinX8 (by decide) zw_937 (by decide +kernel)) (
  zcons (zk_iload (pc := 45) (by decide +kernel)) (
  zcons (zk_iaload (pc := 47) (by decide +kernel)) (
  zcons (zk_iload_n (pc := 48) (j := 1) rfl (by decide +kernel)) (
  zcons (zk_iand (pc := 49) (by decide +kernel)) (
  zcons (zk_goto (pc := 50) (off := 4) (by decide) (by decide +kernel)) (
  zcons (zk_iconst (pc := 53) (z := 0) (by decide) (by decide +kernel)) (
  zcons (zk_ior (pc := 54) (by decide +kernel)) (
  zcons (zk_istore_n (pc := 55) (j := 3) rfl (by decide +kernel)) (
  zcons (zk_iinc (pc := 56) (z := 1) (by decide) (by decide +kernel)) (
  zcons (zk_goto (pc := 59) (off := (-40)) (by decide) (by decide +kernel)) (
  zcons (zk_goto (pc := 62) (off := (-55)) (by decide) (by decide +kernel)) (
  zcons (zk_iload_n (pc := 65) (j := 3) rfl (by decide +kernel)) (
  zcons (zk_reti (pc := 66) rfl (by decide +kernel)) (znil)))))))))))))))))))))))))))))))))))))))
def tb_X8_lowest : List (Nat × ZP) := [(0, zo_i 0 1), (1, zo_is 1 2), (2, zo_il 0 3), (3, zo_il 1 4), (4, zo_csi 144 2 7), (7, zo_ifne 16 10), (10, zo_inc 1 1 13), (13, zo_goto 2), (16, zo_il 1 17), (17, zo_reti)]
def cu_X8_lowest : List (Nat × List Bool) := [(2, [true, true])]
set_option maxRecDepth 100000 in
set_option maxHeartbeats 4000000 in
theorem ok_X8_lowest : ∀ e ∈ tb_X8_lowest, ZOK zmt cX8_lowest RX8 1 e.1 e.2 :=
  zcons (zk_iconst (pc := 0) (z := 0) (by decide) (by decide +kernel)) (
  zcons (zk_istore_n (pc := 1) (j := 1) rfl (by decide +kernel)) (
  zcons (zk_iload_n (pc := 2) (j := 0) rfl (by decide +kernel)) (
  zcons (zk_iload_n (pc := 3) (j := 1) rfl (by decide +kernel)) (
  zcons (zk_csi (pc := 4) 144 rfl zw_1115 zw_1116 zds_X8_has (by decide) zw_1117 zw_9 (by decide +kernel)) (
  zcons (zk_ifne (pc := 7) (off := 9) (by decide) (by decide +kernel)) (
  zcons (zk_iinc (pc := 10) (z := 1) (by decide) (by decide +kernel)) (
  zcons (zk_goto (pc := 13) (off := (-11)) (by decide) (by decide +kernel)) (
  zcons (zk_iload_n (pc := 16) (j := 1) rfl (by decide +kernel)) (
  zcons (zk_reti (pc := 17) rfl (by decide +kernel)) (znil))))))))))
def tb_X8_hangs : List (Nat × ZP) := [(0, zo_il 1 1), (1, zo_ifle 21 4), (4, zo_al 0 5), (5, zo_il 1 6), (6, zo_il 1 7), (7, zo_csi 175 1 10), (10, zo_cvi 8 174 2 13), (13, zo_il 1 14), (14, zo_icne 21 17), (17, zo_i 1 18), (18, zo_goto 22), (21, zo_i 0 22), (22, zo_retz)]
def cu_X8_hangs : List (Nat × List Bool) := []
set_option maxRecDepth 100000 in
set_option maxHeartbeats 4000000 in
theorem ok_X8_hangs : ∀ e ∈ tb_X8_hangs, ZOK zmt cX8_hangs RX8 3 e.1 e.2 :=
  zcons (zk_iload_n (pc := 0) (j := 1) rfl (by decide +kernel)) (
  zcons (zk_ifle (pc := 1) (off := 20) (by decide) (by decide +kernel)) (
  zcons (zk_aload_n (pc := 4) (j := 0) rfl (by decide +kernel)) (
  zcons (zk_iload_n (pc := 5) (j := 1) rfl (by decide +kernel)) (
  zcons (zk_iload_n (pc := 6) (j := 1) rfl (by decide +kernel)) (
  zcons (zk_csi (pc := 7) 175 rfl zw_1112 zw_1113 zds_X8_lowest (by decide) zw_1114 zw_9 (by decide +kernel)) (
  zcons (zk_cvi (pc := 10) 174 rfl (ci := 8) rfl zw_1118 zw_1120 zsel_X8_reach zds_X8_reach (by decide) zw_1121 zw_9 (by decide +kernel)) (
  zcons (zk_iload_n (pc := 13) (j := 1) rfl (by decide +kernel)) (
  zcons (zk_icne (pc := 14) (off := 7) (by decide) (by decide +kernel)) (
  zcons (zk_iconst (pc := 17) (z := 1) (by decide) (by decide +kernel)) (
  zcons (zk_goto (pc := 18) (off := 4) (by decide) (by decide +kernel)) (
  zcons (zk_iconst (pc := 21) (z := 0) (by decide) (by decide +kernel)) (
  zcons (zk_retz (pc := 22) rfl (by decide +kernel)) (znil)))))))))))))
def tb_X8_isPiece : List (Nat × ZP) := [(0, zo_il 1 1), (1, zo_ifle 27 4), (4, zo_il 1 5), (5, zo_al 0 6), (6, zo_cvi 8 172 0 9), (9, zo_i (-1) 10), (10, zo_bin (· ^^^ ·) 11), (11, zo_bin (· &&& ·) 12), (12, zo_ifne 27 15), (15, zo_al 0 16), (16, zo_il 1 17), (17, zo_cvi 8 176 1 20), (20, zo_ifeq 27 23), (23, zo_i 1 24), (24, zo_goto 28), (27, zo_i 0 28), (28, zo_retz)]
def cu_X8_isPiece : List (Nat × List Bool) := []
set_option maxRecDepth 100000 in
set_option maxHeartbeats 4000000 in
theorem ok_X8_isPiece : ∀ e ∈ tb_X8_isPiece, ZOK zmt cX8_isPiece RX8 3 e.1 e.2 :=
  zcons (zk_iload_n (pc := 0) (j := 1) rfl (by decide +kernel)) (
  zcons (zk_ifle (pc := 1) (off := 26) (by decide) (by decide +kernel)) (
  zcons (zk_iload_n (pc := 4) (j := 1) rfl (by decide +kernel)) (
  zcons (zk_aload_n (pc := 5) (j := 0) rfl (by decide +kernel)) (
  zcons (zk_cvi (pc := 6) 172 rfl (ci := 8) rfl zw_1100 zw_1102 zsel_X8_on zds_X8_on (by decide) zw_1103 zw_9 (by decide +kernel)) (
  zcons (zk_iconst (pc := 9) (z := (-1)) (by decide) (by decide +kernel)) (
  zcons (zk_ixor (pc := 10) (by decide +kernel)) (
  zcons (zk_iand (pc := 11) (by decide +kernel)) (
  zcons (zk_ifne (pc := 12) (off := 15) (by decide) (by decide +kernel)) (
  zcons (zk_aload_n (pc := 15) (j := 0) rfl (by decide +kernel)) (
  zcons (zk_iload_n (pc := 16) (j := 1) rfl (by decide +kernel)) (
  zcons (zk_cvi (pc := 17) 176 rfl (ci := 8) rfl zw_1108 zw_1110 zsel_X8_hangs zds_X8_hangs (by decide) zw_1111 zw_9 (by decide +kernel)) (
  zcons (zk_ifeq (pc := 20) (off := 7) (by decide) (by decide +kernel)) (
  zcons (zk_iconst (pc := 23) (z := 1) (by decide) (by decide +kernel)) (
  zcons (zk_goto (pc := 24) (off := 4) (by decide) (by decide +kernel)) (
  zcons (zk_iconst (pc := 27) (z := 0) (by decide) (by decide +kernel)) (
  zcons (zk_retz (pc := 28) rfl (by decide +kernel)) (znil)))))))))))))))))
def tb_X8_pays : List (Nat × ZP) := [(0, zo_i 0 1), (1, zo_is 2 2), (2, zo_i 0 3), (3, zo_is 3 4), (4, zo_i 0 5), (5, zo_is 4 7), (7, zo_il 4 9), (9, zo_al 0 10), (10, zo_getr 8 10 13), (13, zo_i 0 14), (14, zo_iald 15), (15, zo_icge 48 18), (18, zo_il 2 19), (19, zo_al 0 20), (20, zo_getr 8 10 23), (23, zo_i 3 24), (24, zo_il 4 26), (26, zo_bin (· + ·) 27), (27, zo_iald 28), (28, zo_i 4 29), (29, zo_iclt 39 32), (32, zo_i 1 33), (33, zo_il 4 35), (35, zo_bin zshl 36), (36, zo_goto 40), (39, zo_i 0 40), (40, zo_bin (· ||| ·) 41), (41, zo_is 2 42), (42, zo_inc 4 1 45), (45, zo_goto 7), (48, zo_i 0 49), (49, zo_is 4 51), (51, zo_il 4 53), (53, zo_al 0 54), (54, zo_getr 8 10 57), (57, zo_i 0 58), (58, zo_iald 59), (59, zo_icge 183 62), (62, zo_al 0 63), (63, zo_getr 8 10 66), (66, zo_i 31 68), (68, zo_il 4 70), (70, zo_bin (· + ·) 71), (71, zo_iald 72), (72, zo_is 5 74), (74, zo_al 0 75), (75, zo_getr 8 10 78), (78, zo_i 3 79), (79, zo_il 4 81), (81, zo_bin (· + ·) 82), (82, zo_iald 83), (83, zo_is 6 85), (85, zo_il 6 87), (87, zo_i 2 88), (88, zo_icne 104 91), (91, zo_il 5 93), (93, zo_al 0 94), (94, zo_getr 8 10 97), (97, zo_i 23 99), (99, zo_iald 100), (100, zo_bin (· + ·) 101), (101, zo_goto 157), (104, zo_il 6 106), (106, zo_i 3 107), (107, zo_icne 117 110), (110, zo_il 5 112), (112, zo_i 2 113), (113, zo_dv (· / ·) 114), (114, zo_goto 157), (117, zo_il 6 119), (119, zo_i 4 120), (120, zo_icge 128 123), (123, zo_il 5 125), (125, zo_goto 157), (128, zo_il 5 130), (130, zo_al 0 131), (131, zo_getr 8 12 134), (134, zo_il 4 136), (136, zo_iald 137), (137, zo_il 1 138), (138, zo_bin (· &&& ·) 139), (139, zo_il 2 140), (140, zo_bin (· &&& ·) 141), (141, zo_csi 145 1 144), (144, zo_bin (· * ·) 145), (145, zo_il 6 147), (147, zo_i 5 148), (148, zo_icne 155 151), (151, zo_i 5 152), (152, zo_goto 156), (155, zo_i 0 156), (156, zo_bin (· + ·) 157), (157, zo_is 7 159), (159, zo_il 3 160), (160, zo_il 1 161), (161, zo_il 4 163), (163, zo_csi 144 2 166), (166, zo_ifeq 174 169), (169, zo_il 7 171), (171, zo_goto 175), (174, zo_i 0 175), (175, zo_bin (· + ·) 176), (176, zo_is 3 177), (177, zo_inc 4 1 180), (180, zo_goto 51), (183, zo_il 3 184), (184, zo_reti)]
def cu_X8_pays : List (Nat × List Bool) := [(7, [true, true, true, true, true, false, false, false]), (51, [true, true, true, true, true, false, false, false])]
set_option maxRecDepth 100000 in
set_option maxHeartbeats 4000000 in
theorem ok_X8_pays : ∀ e ∈ tb_X8_pays, ZOK zmt cX8_pays RX8 1 e.1 e.2 :=
  zcons (zk_iconst (pc := 0) (z := 0) (by decide) (by decide +kernel)) (
  zcons (zk_istore_n (pc := 1) (j := 2) rfl (by decide +kernel)) (
  zcons (zk_iconst (pc := 2) (z := 0) (by decide) (by decide +kernel)) (
  zcons (zk_istore_n (pc := 3) (j := 3) rfl (by decide +kernel)) (
  zcons (zk_iconst (pc := 4) (z := 0) (by decide) (by decide +kernel)) (
  zcons (zk_istore (pc := 5) (by decide +kernel)) (
  zcons (zk_iload (pc := 7) (by decide +kernel)) (
  zcons (zk_aload_n (pc := 9) (j := 0) rfl (by decide +kernel)) (
  zcons (zk_getr (pc := 10) (ci := 8) (j := 10) rfl zinX8 (by decide) zw_935 (by decide +kernel)) (
  zcons (zk_iconst (pc := 13) (z := 0) (by decide) (by decide +kernel)) (
  zcons (zk_iaload (pc := 14) (by decide +kernel)) (
  zcons (zk_icge (pc := 15) (off := 33) (by decide) (by decide +kernel)) (
  zcons (zk_iload_n (pc := 18) (j := 2) rfl (by decide +kernel)) (
  zcons (zk_aload_n (pc := 19) (j := 0) rfl (by decide +kernel)) (
  zcons (zk_getr (pc := 20) (ci := 8) (j := 10) rfl zinX8 (by decide) zw_935 (by decide +kernel)) (
  zcons (zk_iconst (pc := 23) (z := 3) (by decide) (by decide +kernel)) (
  zcons (zk_iload (pc := 24) (by decide +kernel)) (
  zcons (zk_iadd (pc := 26) (by decide +kernel)) (
  zcons (zk_iaload (pc := 27) (by decide +kernel)) (
  zcons (zk_iconst (pc := 28) (z := 4) (by decide) (by decide +kernel)) (
  zcons (zk_iclt (pc := 29) (off := 10) (by decide) (by decide +kernel)) (
  zcons (zk_iconst (pc := 32) (z := 1) (by decide) (by decide +kernel)) (
  zcons (zk_iload (pc := 33) (by decide +kernel)) (
  zcons (zk_ishl (pc := 35) (by decide +kernel)) (
  zcons (zk_goto (pc := 36) (off := 4) (by decide) (by decide +kernel)) (
  zcons (zk_iconst (pc := 39) (z := 0) (by decide) (by decide +kernel)) (
  zcons (zk_ior (pc := 40) (by decide +kernel)) (
  zcons (zk_istore_n (pc := 41) (j := 2) rfl (by decide +kernel)) (
  zcons (zk_iinc (pc := 42) (z := 1) (by decide) (by decide +kernel)) (
  zcons (zk_goto (pc := 45) (off := (-38)) (by decide) (by decide +kernel)) (
  zcons (zk_iconst (pc := 48) (z := 0) (by decide) (by decide +kernel)) (
  zcons (zk_istore (pc := 49) (by decide +kernel)) (
  zcons (zk_iload (pc := 51) (by decide +kernel)) (
  zcons (zk_aload_n (pc := 53) (j := 0) rfl (by decide +kernel)) (
  zcons (zk_getr (pc := 54) (ci := 8) (j := 10) rfl zinX8 (by decide) zw_935 (by decide +kernel)) (
  zcons (zk_iconst (pc := 57) (z := 0) (by decide) (by decide +kernel)) (
  zcons (zk_iaload (pc := 58) (by decide +kernel)) (
  zcons (zk_icge (pc := 59) (off := 124) (by decide) (by decide +kernel)) (
  zcons (zk_aload_n (pc := 62) (j := 0) rfl (by decide +kernel)) (
  zcons (zk_getr (pc := 63) (ci := 8) (j := 10) rfl zinX8 (by decide) zw_935 (by decide +kernel)) (
  zcons (zk_bipush (pc := 66) (z := 31) (by decide) (by decide +kernel)) (
  zcons (zk_iload (pc := 68) (by decide +kernel)) (
  zcons (zk_iadd (pc := 70) (by decide +kernel)) (
  zcons (zk_iaload (pc := 71) (by decide +kernel)) (
  zcons (zk_istore (pc := 72) (by decide +kernel)) (
  zcons (zk_aload_n (pc := 74) (j := 0) rfl (by decide +kernel)) (
  zcons (zk_getr (pc := 75) (ci := 8) (j := 10) rfl zinX8 (by decide) zw_935 (by decide +kernel)) (
  zcons (zk_iconst (pc := 78) (z := 3) (by decide) (by decide +kernel)) (
  zcons (zk_iload (pc := 79) (by decide +kernel)) (
  zcons (zk_iadd (pc := 81) (by decide +kernel)) (
  zcons (zk_iaload (pc := 82) (by decide +kernel)) (
  zcons (zk_istore (pc := 83) (by decide +kernel)) (
  zcons (zk_iload (pc := 85) (by decide +kernel)) (
  zcons (zk_iconst (pc := 87) (z := 2) (by decide) (by decide +kernel)) (
  zcons (zk_icne (pc := 88) (off := 16) (by decide) (by decide +kernel)) (
  zcons (zk_iload (pc := 91) (by decide +kernel)) (
  zcons (zk_aload_n (pc := 93) (j := 0) rfl (by decide +kernel)) (
  zcons (zk_getr (pc := 94) (ci := 8) (j := 10) rfl zinX8 (by decide) zw_935 (by decide +kernel)) (
  zcons (zk_bipush (pc := 97) (z := 23) (by decide) (by decide +kernel)) (
  zcons (zk_iaload (pc := 99) (by decide +kernel)) (
  zcons (zk_iadd (pc := 100) (by decide +kernel)) (
  zcons (zk_goto (pc := 101) (off := 56) (by decide) (by decide +kernel)) (
  zcons (zk_iload (pc := 104) (by decide +kernel)) (
  zcons (zk_iconst (pc := 106) (z := 3) (by decide) (by decide +kernel)) (
  zcons (zk_icne (pc := 107) (off := 10) (by decide) (by decide +kernel)) (
  zcons (zk_iload (pc := 110) (by decide +kernel)) (
  zcons (zk_iconst (pc := 112) (z := 2) (by decide) (by decide +kernel)) (
  zcons (zk_idiv (pc := 113) (by decide +kernel)) (
  zcons (zk_goto (pc := 114) (off := 43) (by decide) (by decide +kernel)) (
  zcons (zk_iload (pc := 117) (by decide +kernel)) (
  zcons (zk_iconst (pc := 119) (z := 4) (by decide) (by decide +kernel)) (
  zcons (zk_icge (pc := 120) (off := 8) (by decide) (by decide +kernel)) (
  zcons (zk_iload (pc := 123) (by decide +kernel)) (
  zcons (zk_goto (pc := 125) (off := 32) (by decide) (by decide +kernel)) (
  zcons (zk_iload (pc := 128) (by decide +kernel)) (
  zcons (zk_aload_n (pc := 130) (j := 0) rfl (by decide +kernel)) (
  zcons (zk_getr (pc := 131) (ci := 8) (j := 12) rfl zinX8 (by decide) zw_937 (by decide +kernel)) (
  zcons (zk_iload (pc := 134) (by decide +kernel)) (
  zcons (zk_iaload (pc := 136) (by decide +kernel)) (
  zcons (zk_iload_n (pc := 137) (j := 1) rfl (by decide +kernel)) (
  zcons (zk_iand (pc := 138) (by decide +kernel)) (
  zcons (zk_iload_n (pc := 139) (j := 2) rfl (by decide +kernel)) (
  zcons (zk_iand (pc := 140) (by decide +kernel)) (
  zcons (zk_csi (pc := 141) 145 rfl zw_1126 zw_1127 zds_X8_ones (by decide) zw_1128 zw_9 (by decide +kernel)) (
  zcons (zk_imul (pc := 144) (by decide +kernel)) (
  zcons (zk_iload (pc := 145) (by decide +kernel)) (
  zcons (zk_iconst (pc := 147) (z := 5) (by decide) (by decide +kernel)) (
  zcons (zk_icne (pc := 148) (off := 7) (by decide) (by decide +kernel)) (
  zcons (zk_iconst (pc := 151) (z := 5) (by decide) (by decide +kernel)) (
  zcons (zk_goto (pc := 152) (off := 4) (by decide) (by decide +kernel)) (
  zcons (zk_iconst (pc := 155) (z := 0) (by decide) (by decide +kernel)) (
  zcons (zk_iadd (pc := 156) (by decide +kernel)) (
  zcons (zk_istore (pc := 157) (by decide +kernel)) (
  zcons (zk_iload_n (pc := 159) (j := 3) rfl (by decide +kernel)) (
  zcons (zk_iload_n (pc := 160) (j := 1) rfl (by decide +kernel)) (
  zcons (zk_iload (pc := 161) (by decide +kernel)) (
  zcons (zk_csi (pc := 163) 144 rfl zw_1115 zw_1116 zds_X8_has (by decide) zw_1117 zw_9 (by decide +kernel)) (
  zcons (zk_ifeq (pc := 166) (off := 8) (by decide) (by decide +kernel)) (
  zcons (zk_iload (pc := 169) (by decide +kernel)) (
  zcons (zk_goto (pc := 171) (off := 4) (by decide) (by decide +kernel)) (
  zcons (zk_iconst (pc := 174) (z := 0) (by decide) (by decide +kernel)) (
  zcons (zk_iadd (pc := 175) (by decide +kernel)) (
  zcons (zk_istore_n (pc := 176) (j := 3) rfl (by decide +kernel)) (
  zcons (zk_iinc (pc := 177) (z := 1) (by decide) (by decide +kernel)) (
  zcons (zk_goto (pc := 180) (off := (-129)) (by decide) (by decide +kernel)) (
  zcons (zk_iload_n (pc := 183) (j := 3) rfl (by decide +kernel)) (
  zcons (zk_reti (pc := 184) rfl (by decide +kernel)) (znil)))))))))))))))))))))))))))))))))))))))))))))))))))))))))))))))))))))))))))))))))))))))))))))))))))))))))))
def tb_X8_tears : List (Nat × ZP) := [(0, zo_i 0 1), (1, zo_is 2 2), (2, zo_i 0 3), (3, zo_is 3 4), (4, zo_il 3 5), (5, zo_al 0 6), (6, zo_getr 8 10 9), (9, zo_i 0 10), (10, zo_iald 11), (11, zo_icge 53 14), (14, zo_il 2 15), (15, zo_il 1 16), (16, zo_il 3 17), (17, zo_csi 144 2 20), (20, zo_ifeq 44 23), (23, zo_al 0 24), (24, zo_getr 8 12 27), (27, zo_il 3 28), (28, zo_iald 29), (29, zo_al 0 30), (30, zo_cvi 8 172 0 33), (33, zo_bin (· &&& ·) 34), (34, zo_il 1 35), (35, zo_i (-1) 36), (36, zo_bin (· ^^^ ·) 37), (37, zo_bin (· &&& ·) 38), (38, zo_csi 145 1 41), (41, zo_goto 45), (44, zo_i 0 45), (45, zo_bin (· + ·) 46), (46, zo_is 2 47), (47, zo_inc 3 1 50), (50, zo_goto 4), (53, zo_il 2 54), (54, zo_reti)]
def cu_X8_tears : List (Nat × List Bool) := [(4, [true, true, true, true])]
set_option maxRecDepth 100000 in
set_option maxHeartbeats 4000000 in
theorem ok_X8_tears : ∀ e ∈ tb_X8_tears, ZOK zmt cX8_tears RX8 1 e.1 e.2 :=
  zcons (zk_iconst (pc := 0) (z := 0) (by decide) (by decide +kernel)) (
  zcons (zk_istore_n (pc := 1) (j := 2) rfl (by decide +kernel)) (
  zcons (zk_iconst (pc := 2) (z := 0) (by decide) (by decide +kernel)) (
  zcons (zk_istore_n (pc := 3) (j := 3) rfl (by decide +kernel)) (
  zcons (zk_iload_n (pc := 4) (j := 3) rfl (by decide +kernel)) (
  zcons (zk_aload_n (pc := 5) (j := 0) rfl (by decide +kernel)) (
  zcons (zk_getr (pc := 6) (ci := 8) (j := 10) rfl zinX8 (by decide) zw_935 (by decide +kernel)) (
  zcons (zk_iconst (pc := 9) (z := 0) (by decide) (by decide +kernel)) (
  zcons (zk_iaload (pc := 10) (by decide +kernel)) (
  zcons (zk_icge (pc := 11) (off := 42) (by decide) (by decide +kernel)) (
  zcons (zk_iload_n (pc := 14) (j := 2) rfl (by decide +kernel)) (
  zcons (zk_iload_n (pc := 15) (j := 1) rfl (by decide +kernel)) (
  zcons (zk_iload_n (pc := 16) (j := 3) rfl (by decide +kernel)) (
  zcons (zk_csi (pc := 17) 144 rfl zw_1115 zw_1116 zds_X8_has (by decide) zw_1117 zw_9 (by decide +kernel)) (
  zcons (zk_ifeq (pc := 20) (off := 24) (by decide) (by decide +kernel)) (
  zcons (zk_aload_n (pc := 23) (j := 0) rfl (by decide +kernel)) (
  zcons (zk_getr (pc := 24) (ci := 8) (j := 12) rfl zinX8 (by decide) zw_937 (by decide +kernel)) (
  zcons (zk_iload_n (pc := 27) (j := 3) rfl (by decide +kernel)) (
  zcons (zk_iaload (pc := 28) (by decide +kernel)) (
  zcons (zk_aload_n (pc := 29) (j := 0) rfl (by decide +kernel)) (
  zcons (zk_cvi (pc := 30) 172 rfl (ci := 8) rfl zw_1100 zw_1102 zsel_X8_on zds_X8_on (by decide) zw_1103 zw_9 (by decide +kernel)) (
  zcons (zk_iand (pc := 33) (by decide +kernel)) (
  zcons (zk_iload_n (pc := 34) (j := 1) rfl (by decide +kernel)) (
  zcons (zk_iconst (pc := 35) (z := (-1)) (by decide) (by decide +kernel)) (
  zcons (zk_ixor (pc := 36) (by decide +kernel)) (
  zcons (zk_iand (pc := 37) (by decide +kernel)) (
  zcons (zk_csi (pc := 38) 145 rfl zw_1126 zw_1127 zds_X8_ones (by decide) zw_1128 zw_9 (by decide +kernel)) (
  zcons (zk_goto (pc := 41) (off := 4) (by decide) (by decide +kernel)) (
  zcons (zk_iconst (pc := 44) (z := 0) (by decide) (by decide +kernel)) (
  zcons (zk_iadd (pc := 45) (by decide +kernel)) (
  zcons (zk_istore_n (pc := 46) (j := 2) rfl (by decide +kernel)) (
  zcons (zk_iinc (pc := 47) (z := 1) (by decide) (by decide +kernel)) (
  zcons (zk_goto (pc := 50) (off := (-46)) (by decide) (by decide +kernel)) (
  zcons (zk_iload_n (pc := 53) (j := 2) rfl (by decide +kernel)) (
  zcons (zk_reti (pc := 54) rfl (by decide +kernel)) (znil)))))))))))))))))))))))))))))))))))
def tb_X8_serves : List (Nat × ZP) := [(0, zo_al 0 1), (1, zo_getr 8 10 4), (4, zo_i 24 6), (6, zo_dup2 7), (7, zo_iald 8), (8, zo_al 0 9), (9, zo_il 2 10), (10, zo_cvi 8 179 1 13), (13, zo_bin (· + ·) 14), (14, zo_iast 15), (15, zo_al 0 16), (16, zo_getr 8 10 19), (19, zo_i 26 21), (21, zo_il 1 22), (22, zo_bin (· + ·) 23), (23, zo_il 2 24), (24, zo_iast 25), (25, zo_retv)]
def cu_X8_serves : List (Nat × List Bool) := []
set_option maxRecDepth 100000 in
set_option maxHeartbeats 4000000 in
theorem ok_X8_serves : ∀ e ∈ tb_X8_serves, ZOK zmt cX8_serves RX8 0 e.1 e.2 :=
  zcons (zk_aload_n (pc := 0) (j := 0) rfl (by decide +kernel)) (
  zcons (zk_getr (pc := 1) (ci := 8) (j := 10) rfl zinX8 (by decide) zw_935 (by decide +kernel)) (
  zcons (zk_bipush (pc := 4) (z := 24) (by decide) (by decide +kernel)) (
  zcons (zk_dup2 (pc := 6) (by decide +kernel)) (
  zcons (zk_iaload (pc := 7) (by decide +kernel)) (
  zcons (zk_aload_n (pc := 8) (j := 0) rfl (by decide +kernel)) (
  zcons (zk_iload_n (pc := 9) (j := 2) rfl (by decide +kernel)) (
  zcons (zk_cvi (pc := 10) 179 rfl (ci := 8) rfl zw_1133 zw_1135 zsel_X8_tears zds_X8_tears (by decide) zw_1136 zw_9 (by decide +kernel)) (
  zcons (zk_iadd (pc := 13) (by decide +kernel)) (
  zcons (zk_iastore (pc := 14) (by decide +kernel)) (
  zcons (zk_aload_n (pc := 15) (j := 0) rfl (by decide +kernel)) (
  zcons (zk_getr (pc := 16) (ci := 8) (j := 10) rfl zinX8 (by decide) zw_935 (by decide +kernel)) (
  zcons (zk_bipush (pc := 19) (z := 26) (by decide) (by decide +kernel)) (
  zcons (zk_iload_n (pc := 21) (j := 1) rfl (by decide +kernel)) (
  zcons (zk_iadd (pc := 22) (by decide +kernel)) (
  zcons (zk_iload_n (pc := 23) (j := 2) rfl (by decide +kernel)) (
  zcons (zk_iastore (pc := 24) (by decide +kernel)) (
  zcons (zk_retv (pc := 25) rfl (by decide +kernel)) (znil))))))))))))))))))
def tb_X8_serve : List (Nat × ZP) := [(0, zo_al 0 1), (1, zo_il 1 2), (2, zo_cvi 8 170 1 5), (5, zo_ifeq 16 8), (8, zo_al 0 9), (9, zo_il 2 10), (10, zo_cvi 8 177 1 13), (13, zo_ifne 19 16), (16, zo_i (-1000001) 18), (18, zo_reti), (19, zo_al 0 20), (20, zo_getr 8 10 23), (23, zo_i 26 25), (25, zo_il 1 26), (26, zo_bin (· + ·) 27), (27, zo_iald 28), (28, zo_ifgt 60 31), (31, zo_al 0 32), (32, zo_il 2 33), (33, zo_cvi 8 178 1 36), (36, zo_al 0 37), (37, zo_getr 8 10 40), (40, zo_i 13 42), (42, zo_il 1 43), (43, zo_bin (· + ·) 44), (44, zo_iald 45), (45, zo_al 0 46), (46, zo_getr 8 10 49), (49, zo_i 18 51), (51, zo_il 1 52), (52, zo_bin (· + ·) 53), (53, zo_iald 54), (54, zo_csi 143 3 57), (57, zo_ifne 63 60), (60, zo_i (-1000002) 62), (62, zo_reti), (63, zo_al 0 64), (64, zo_cvv 8 167 0 67), (67, zo_al 0 68), (68, zo_il 2 69), (69, zo_cvi 8 179 1 72), (72, zo_is 3 73), (73, zo_al 0 74), (74, zo_il 1 75), (75, zo_il 2 76), (76, zo_cvv 8 180 2 79), (79, zo_il 3 80), (80, zo_reti)]
def cu_X8_serve : List (Nat × List Bool) := []
set_option maxRecDepth 100000 in
set_option maxHeartbeats 4000000 in
theorem ok_X8_serve : ∀ e ∈ tb_X8_serve, ZOK zmt cX8_serve RX8 1 e.1 e.2 :=
  zcons (zk_aload_n (pc := 0) (j := 0) rfl (by decide +kernel)) (
  zcons (zk_iload_n (pc := 1) (j := 1) rfl (by decide +kernel)) (
  zcons (zk_cvi (pc := 2) 170 rfl (ci := 8) rfl zw_1092 zw_1094 zsel_X8_isCustomer zds_X8_isCustomer (by decide) zw_1095 zw_9 (by decide +kernel)) (
  zcons (zk_ifeq (pc := 5) (off := 11) (by decide) (by decide +kernel)) (
  zcons (zk_aload_n (pc := 8) (j := 0) rfl (by decide +kernel)) (
  zcons (zk_iload_n (pc := 9) (j := 2) rfl (by decide +kernel)) (
  zcons (zk_cvi (pc := 10) 177 rfl (ci := 8) rfl zw_1096 zw_1098 zsel_X8_isPiece zds_X8_isPiece (by decide) zw_1099 zw_9 (by decide +kernel)) (
  zcons (zk_ifne (pc := 13) (off := 6) (by decide) (by decide +kernel)) (
  zcons (zk_ldc (pc := 16) zw_1005 (by decide +kernel)) (
  zcons (zk_reti (pc := 18) rfl (by decide +kernel)) (
  zcons (zk_aload_n (pc := 19) (j := 0) rfl (by decide +kernel)) (
  zcons (zk_getr (pc := 20) (ci := 8) (j := 10) rfl zinX8 (by decide) zw_935 (by decide +kernel)) (
  zcons (zk_bipush (pc := 23) (z := 26) (by decide) (by decide +kernel)) (
  zcons (zk_iload_n (pc := 25) (j := 1) rfl (by decide +kernel)) (
  zcons (zk_iadd (pc := 26) (by decide +kernel)) (
  zcons (zk_iaload (pc := 27) (by decide +kernel)) (
  zcons (zk_ifgt (pc := 28) (off := 32) (by decide) (by decide +kernel)) (
  zcons (zk_aload_n (pc := 31) (j := 0) rfl (by decide +kernel)) (
  zcons (zk_iload_n (pc := 32) (j := 2) rfl (by decide +kernel)) (
  zcons (zk_cvi (pc := 33) 178 rfl (ci := 8) rfl zw_1122 zw_1124 zsel_X8_pays zds_X8_pays (by decide) zw_1125 zw_9 (by decide +kernel)) (
  zcons (zk_aload_n (pc := 36) (j := 0) rfl (by decide +kernel)) (
  zcons (zk_getr (pc := 37) (ci := 8) (j := 10) rfl zinX8 (by decide) zw_935 (by decide +kernel)) (
  zcons (zk_bipush (pc := 40) (z := 13) (by decide) (by decide +kernel)) (
  zcons (zk_iload_n (pc := 42) (j := 1) rfl (by decide +kernel)) (
  zcons (zk_iadd (pc := 43) (by decide +kernel)) (
  zcons (zk_iaload (pc := 44) (by decide +kernel)) (
  zcons (zk_aload_n (pc := 45) (j := 0) rfl (by decide +kernel)) (
  zcons (zk_getr (pc := 46) (ci := 8) (j := 10) rfl zinX8 (by decide) zw_935 (by decide +kernel)) (
  zcons (zk_bipush (pc := 49) (z := 18) (by decide) (by decide +kernel)) (
  zcons (zk_iload_n (pc := 51) (j := 1) rfl (by decide +kernel)) (
  zcons (zk_iadd (pc := 52) (by decide +kernel)) (
  zcons (zk_iaload (pc := 53) (by decide +kernel)) (
  zcons (zk_csi (pc := 54) 143 rfl zw_1002 zw_1003 zds_X8_in (by decide) zw_1004 zw_9 (by decide +kernel)) (
  zcons (zk_ifne (pc := 57) (off := 6) (by decide) (by decide +kernel)) (
  zcons (zk_ldc (pc := 60) zw_1087 (by decide +kernel)) (
  zcons (zk_reti (pc := 62) rfl (by decide +kernel)) (
  zcons (zk_aload_n (pc := 63) (j := 0) rfl (by decide +kernel)) (
  zcons (zk_cvv (pc := 64) 167 rfl (ci := 8) rfl zw_1129 zw_1131 zsel_X8_keeps zds_X8_keeps (by decide) zw_1132 zw_9 (by decide +kernel)) (
  zcons (zk_aload_n (pc := 67) (j := 0) rfl (by decide +kernel)) (
  zcons (zk_iload_n (pc := 68) (j := 2) rfl (by decide +kernel)) (
  zcons (zk_cvi (pc := 69) 179 rfl (ci := 8) rfl zw_1133 zw_1135 zsel_X8_tears zds_X8_tears (by decide) zw_1136 zw_9 (by decide +kernel)) (
  zcons (zk_istore_n (pc := 72) (j := 3) rfl (by decide +kernel)) (
  zcons (zk_aload_n (pc := 73) (j := 0) rfl (by decide +kernel)) (
  zcons (zk_iload_n (pc := 74) (j := 1) rfl (by decide +kernel)) (
  zcons (zk_iload_n (pc := 75) (j := 2) rfl (by decide +kernel)) (
  zcons (zk_cvv (pc := 76) 180 rfl (ci := 8) rfl zw_1137 zw_1139 zsel_X8_serves zds_X8_serves (by decide) zw_1140 zw_9 (by decide +kernel)) (
  zcons (zk_iload_n (pc := 79) (j := 3) rfl (by decide +kernel)) (
  zcons (zk_reti (pc := 80) rfl (by decide +kernel)) (znil))))))))))))))))))))))))))))))))))))))))))))))))
def tb_X8_bringBack : List (Nat × ZP) := [(0, zo_al 0 1), (1, zo_il 1 2), (2, zo_cvi 8 170 1 5), (5, zo_ifne 11 8), (8, zo_i (-1000001) 10), (10, zo_reti), (11, zo_al 0 12), (12, zo_getr 8 10 15), (15, zo_i 26 17), (17, zo_il 1 18), (18, zo_bin (· + ·) 19), (19, zo_iald 20), (20, zo_ifne 26 23), (23, zo_i (-1000002) 25), (25, zo_reti), (26, zo_al 0 27), (27, zo_cvv 8 167 0 30), (30, zo_al 0 31), (31, zo_al 0 32), (32, zo_getr 8 10 35), (35, zo_i 26 37), (37, zo_il 1 38), (38, zo_bin (· + ·) 39), (39, zo_iald 40), (40, zo_cvi 8 178 1 43), (43, zo_is 2 44), (44, zo_al 0 45), (45, zo_getr 8 10 48), (48, zo_i 26 50), (50, zo_il 1 51), (51, zo_bin (· + ·) 52), (52, zo_i 0 53), (53, zo_iast 54), (54, zo_il 2 55), (55, zo_reti)]
def cu_X8_bringBack : List (Nat × List Bool) := []
set_option maxRecDepth 100000 in
set_option maxHeartbeats 4000000 in
theorem ok_X8_bringBack : ∀ e ∈ tb_X8_bringBack, ZOK zmt cX8_bringBack RX8 1 e.1 e.2 :=
  zcons (zk_aload_n (pc := 0) (j := 0) rfl (by decide +kernel)) (
  zcons (zk_iload_n (pc := 1) (j := 1) rfl (by decide +kernel)) (
  zcons (zk_cvi (pc := 2) 170 rfl (ci := 8) rfl zw_1092 zw_1094 zsel_X8_isCustomer zds_X8_isCustomer (by decide) zw_1095 zw_9 (by decide +kernel)) (
  zcons (zk_ifne (pc := 5) (off := 6) (by decide) (by decide +kernel)) (
  zcons (zk_ldc (pc := 8) zw_1005 (by decide +kernel)) (
  zcons (zk_reti (pc := 10) rfl (by decide +kernel)) (
  zcons (zk_aload_n (pc := 11) (j := 0) rfl (by decide +kernel)) (
  zcons (zk_getr (pc := 12) (ci := 8) (j := 10) rfl zinX8 (by decide) zw_935 (by decide +kernel)) (
  zcons (zk_bipush (pc := 15) (z := 26) (by decide) (by decide +kernel)) (
  zcons (zk_iload_n (pc := 17) (j := 1) rfl (by decide +kernel)) (
  zcons (zk_iadd (pc := 18) (by decide +kernel)) (
  zcons (zk_iaload (pc := 19) (by decide +kernel)) (
  zcons (zk_ifne (pc := 20) (off := 6) (by decide) (by decide +kernel)) (
  zcons (zk_ldc (pc := 23) zw_1087 (by decide +kernel)) (
  zcons (zk_reti (pc := 25) rfl (by decide +kernel)) (
  zcons (zk_aload_n (pc := 26) (j := 0) rfl (by decide +kernel)) (
  zcons (zk_cvv (pc := 27) 167 rfl (ci := 8) rfl zw_1129 zw_1131 zsel_X8_keeps zds_X8_keeps (by decide) zw_1132 zw_9 (by decide +kernel)) (
  zcons (zk_aload_n (pc := 30) (j := 0) rfl (by decide +kernel)) (
  zcons (zk_aload_n (pc := 31) (j := 0) rfl (by decide +kernel)) (
  zcons (zk_getr (pc := 32) (ci := 8) (j := 10) rfl zinX8 (by decide) zw_935 (by decide +kernel)) (
  zcons (zk_bipush (pc := 35) (z := 26) (by decide) (by decide +kernel)) (
  zcons (zk_iload_n (pc := 37) (j := 1) rfl (by decide +kernel)) (
  zcons (zk_iadd (pc := 38) (by decide +kernel)) (
  zcons (zk_iaload (pc := 39) (by decide +kernel)) (
  zcons (zk_cvi (pc := 40) 178 rfl (ci := 8) rfl zw_1122 zw_1124 zsel_X8_pays zds_X8_pays (by decide) zw_1125 zw_9 (by decide +kernel)) (
  zcons (zk_istore_n (pc := 43) (j := 2) rfl (by decide +kernel)) (
  zcons (zk_aload_n (pc := 44) (j := 0) rfl (by decide +kernel)) (
  zcons (zk_getr (pc := 45) (ci := 8) (j := 10) rfl zinX8 (by decide) zw_935 (by decide +kernel)) (
  zcons (zk_bipush (pc := 48) (z := 26) (by decide) (by decide +kernel)) (
  zcons (zk_iload_n (pc := 50) (j := 1) rfl (by decide +kernel)) (
  zcons (zk_iadd (pc := 51) (by decide +kernel)) (
  zcons (zk_iconst (pc := 52) (z := 0) (by decide) (by decide +kernel)) (
  zcons (zk_iastore (pc := 53) (by decide +kernel)) (
  zcons (zk_iload_n (pc := 54) (j := 2) rfl (by decide +kernel)) (
  zcons (zk_reti (pc := 55) rfl (by decide +kernel)) (znil)))))))))))))))))))))))))))))))))))
def tb_X8_spoil : List (Nat × ZP) := [(0, zo_al 0 1), (1, zo_il 1 2), (2, zo_cvi 8 169 1 5), (5, zo_ifne 11 8), (8, zo_i (-1000001) 10), (10, zo_reti), (11, zo_al 0 12), (12, zo_cvi 8 172 0 15), (15, zo_il 1 16), (16, zo_csi 144 2 19), (19, zo_ifne 25 22), (22, zo_i (-1000002) 24), (24, zo_reti), (25, zo_al 0 26), (26, zo_cvv 8 167 0 29), (29, zo_al 0 30), (30, zo_getr 8 10 33), (33, zo_i 25 35), (35, zo_dup2 36), (36, zo_iald 37), (37, zo_i 1 38), (38, zo_il 1 39), (39, zo_bin zshl 40), (40, zo_bin (· ||| ·) 41), (41, zo_iast 42), (42, zo_al 0 43), (43, zo_cvi 8 172 0 46), (46, zo_csi 145 1 49), (49, zo_reti)]
def cu_X8_spoil : List (Nat × List Bool) := []
set_option maxRecDepth 100000 in
set_option maxHeartbeats 4000000 in
theorem ok_X8_spoil : ∀ e ∈ tb_X8_spoil, ZOK zmt cX8_spoil RX8 1 e.1 e.2 :=
  zcons (zk_aload_n (pc := 0) (j := 0) rfl (by decide +kernel)) (
  zcons (zk_iload_n (pc := 1) (j := 1) rfl (by decide +kernel)) (
  zcons (zk_cvi (pc := 2) 169 rfl (ci := 8) rfl zw_1149 zw_1151 zsel_X8_isCell zds_X8_isCell (by decide) zw_1152 zw_9 (by decide +kernel)) (
  zcons (zk_ifne (pc := 5) (off := 6) (by decide) (by decide +kernel)) (
  zcons (zk_ldc (pc := 8) zw_1005 (by decide +kernel)) (
  zcons (zk_reti (pc := 10) rfl (by decide +kernel)) (
  zcons (zk_aload_n (pc := 11) (j := 0) rfl (by decide +kernel)) (
  zcons (zk_cvi (pc := 12) 172 rfl (ci := 8) rfl zw_1100 zw_1102 zsel_X8_on zds_X8_on (by decide) zw_1103 zw_9 (by decide +kernel)) (
  zcons (zk_iload_n (pc := 15) (j := 1) rfl (by decide +kernel)) (
  zcons (zk_csi (pc := 16) 144 rfl zw_1115 zw_1116 zds_X8_has (by decide) zw_1117 zw_9 (by decide +kernel)) (
  zcons (zk_ifne (pc := 19) (off := 6) (by decide) (by decide +kernel)) (
  zcons (zk_ldc (pc := 22) zw_1087 (by decide +kernel)) (
  zcons (zk_reti (pc := 24) rfl (by decide +kernel)) (
  zcons (zk_aload_n (pc := 25) (j := 0) rfl (by decide +kernel)) (
  zcons (zk_cvv (pc := 26) 167 rfl (ci := 8) rfl zw_1129 zw_1131 zsel_X8_keeps zds_X8_keeps (by decide) zw_1132 zw_9 (by decide +kernel)) (
  zcons (zk_aload_n (pc := 29) (j := 0) rfl (by decide +kernel)) (
  zcons (zk_getr (pc := 30) (ci := 8) (j := 10) rfl zinX8 (by decide) zw_935 (by decide +kernel)) (
  zcons (zk_bipush (pc := 33) (z := 25) (by decide) (by decide +kernel)) (
  zcons (zk_dup2 (pc := 35) (by decide +kernel)) (
  zcons (zk_iaload (pc := 36) (by decide +kernel)) (
  zcons (zk_iconst (pc := 37) (z := 1) (by decide) (by decide +kernel)) (
  zcons (zk_iload_n (pc := 38) (j := 1) rfl (by decide +kernel)) (
  zcons (zk_ishl (pc := 39) (by decide +kernel)) (
  zcons (zk_ior (pc := 40) (by decide +kernel)) (
  zcons (zk_iastore (pc := 41) (by decide +kernel)) (
  zcons (zk_aload_n (pc := 42) (j := 0) rfl (by decide +kernel)) (
  zcons (zk_cvi (pc := 43) 172 rfl (ci := 8) rfl zw_1100 zw_1102 zsel_X8_on zds_X8_on (by decide) zw_1103 zw_9 (by decide +kernel)) (
  zcons (zk_csi (pc := 46) 145 rfl zw_1126 zw_1127 zds_X8_ones (by decide) zw_1128 zw_9 (by decide +kernel)) (
  zcons (zk_reti (pc := 49) rfl (by decide +kernel)) (znil)))))))))))))))))))))))))))))
def tb_X8_value : List (Nat × ZP) := [(0, zo_al 0 1), (1, zo_il 1 2), (2, zo_cvi 8 169 1 5), (5, zo_ifeq 18 8), (8, zo_il 2 9), (9, zo_i 0 10), (10, zo_i 9 12), (12, zo_csi 143 3 15), (15, zo_ifne 21 18), (18, zo_i (-1000001) 20), (20, zo_reti), (21, zo_al 0 22), (22, zo_cvv 8 167 0 25), (25, zo_al 0 26), (26, zo_getr 8 10 29), (29, zo_i 31 31), (31, zo_il 1 32), (32, zo_bin (· + ·) 33), (33, zo_iald 34), (34, zo_is 3 35), (35, zo_al 0 36), (36, zo_getr 8 10 39), (39, zo_i 31 41), (41, zo_il 1 42), (42, zo_bin (· + ·) 43), (43, zo_il 2 44), (44, zo_iast 45), (45, zo_il 3 46), (46, zo_reti)]
def cu_X8_value : List (Nat × List Bool) := []
set_option maxRecDepth 100000 in
set_option maxHeartbeats 4000000 in
theorem ok_X8_value : ∀ e ∈ tb_X8_value, ZOK zmt cX8_value RX8 1 e.1 e.2 :=
  zcons (zk_aload_n (pc := 0) (j := 0) rfl (by decide +kernel)) (
  zcons (zk_iload_n (pc := 1) (j := 1) rfl (by decide +kernel)) (
  zcons (zk_cvi (pc := 2) 169 rfl (ci := 8) rfl zw_1149 zw_1151 zsel_X8_isCell zds_X8_isCell (by decide) zw_1152 zw_9 (by decide +kernel)) (
  zcons (zk_ifeq (pc := 5) (off := 13) (by decide) (by decide +kernel)) (
  zcons (zk_iload_n (pc := 8) (j := 2) rfl (by decide +kernel)) (
  zcons (zk_iconst (pc := 9) (z := 0) (by decide) (by decide +kernel)) (
  zcons (zk_bipush (pc := 10) (z := 9) (by decide) (by decide +kernel)) (
  zcons (zk_csi (pc := 12) 143 rfl zw_1002 zw_1003 zds_X8_in (by decide) zw_1004 zw_9 (by decide +kernel)) (
  zcons (zk_ifne (pc := 15) (off := 6) (by decide) (by decide +kernel)) (
  zcons (zk_ldc (pc := 18) zw_1005 (by decide +kernel)) (
  zcons (zk_reti (pc := 20) rfl (by decide +kernel)) (
  zcons (zk_aload_n (pc := 21) (j := 0) rfl (by decide +kernel)) (
  zcons (zk_cvv (pc := 22) 167 rfl (ci := 8) rfl zw_1129 zw_1131 zsel_X8_keeps zds_X8_keeps (by decide) zw_1132 zw_9 (by decide +kernel)) (
  zcons (zk_aload_n (pc := 25) (j := 0) rfl (by decide +kernel)) (
  zcons (zk_getr (pc := 26) (ci := 8) (j := 10) rfl zinX8 (by decide) zw_935 (by decide +kernel)) (
  zcons (zk_bipush (pc := 29) (z := 31) (by decide) (by decide +kernel)) (
  zcons (zk_iload_n (pc := 31) (j := 1) rfl (by decide +kernel)) (
  zcons (zk_iadd (pc := 32) (by decide +kernel)) (
  zcons (zk_iaload (pc := 33) (by decide +kernel)) (
  zcons (zk_istore_n (pc := 34) (j := 3) rfl (by decide +kernel)) (
  zcons (zk_aload_n (pc := 35) (j := 0) rfl (by decide +kernel)) (
  zcons (zk_getr (pc := 36) (ci := 8) (j := 10) rfl zinX8 (by decide) zw_935 (by decide +kernel)) (
  zcons (zk_bipush (pc := 39) (z := 31) (by decide) (by decide +kernel)) (
  zcons (zk_iload_n (pc := 41) (j := 1) rfl (by decide +kernel)) (
  zcons (zk_iadd (pc := 42) (by decide +kernel)) (
  zcons (zk_iload_n (pc := 43) (j := 2) rfl (by decide +kernel)) (
  zcons (zk_iastore (pc := 44) (by decide +kernel)) (
  zcons (zk_iload_n (pc := 45) (j := 3) rfl (by decide +kernel)) (
  zcons (zk_reti (pc := 46) rfl (by decide +kernel)) (znil)))))))))))))))))))))))))))))
def tb_X8_over : List (Nat × ZP) := [(0, zo_al 0 1), (1, zo_getr 8 10 4), (4, zo_i 0 5), (5, zo_iald 6), (6, zo_ifne 12 9), (9, zo_i (-1000002) 11), (11, zo_reti), (12, zo_il 1 13), (13, zo_i 0 14), (14, zo_i 9 16), (16, zo_csi 143 3 19), (19, zo_ifne 25 22), (22, zo_i (-1000001) 24), (24, zo_reti), (25, zo_al 0 26), (26, zo_cvv 8 167 0 29), (29, zo_al 0 30), (30, zo_getr 8 10 33), (33, zo_i 23 35), (35, zo_iald 36), (36, zo_is 2 37), (37, zo_al 0 38), (38, zo_getr 8 10 41), (41, zo_i 23 43), (43, zo_il 1 44), (44, zo_iast 45), (45, zo_il 2 46), (46, zo_reti)]
def cu_X8_over : List (Nat × List Bool) := []
set_option maxRecDepth 100000 in
set_option maxHeartbeats 4000000 in
theorem ok_X8_over : ∀ e ∈ tb_X8_over, ZOK zmt cX8_over RX8 1 e.1 e.2 :=
  zcons (zk_aload_n (pc := 0) (j := 0) rfl (by decide +kernel)) (
  zcons (zk_getr (pc := 1) (ci := 8) (j := 10) rfl zinX8 (by decide) zw_935 (by decide +kernel)) (
  zcons (zk_iconst (pc := 4) (z := 0) (by decide) (by decide +kernel)) (
  zcons (zk_iaload (pc := 5) (by decide +kernel)) (
  zcons (zk_ifne (pc := 6) (off := 6) (by decide) (by decide +kernel)) (
  zcons (zk_ldc (pc := 9) zw_1087 (by decide +kernel)) (
  zcons (zk_reti (pc := 11) rfl (by decide +kernel)) (
  zcons (zk_iload_n (pc := 12) (j := 1) rfl (by decide +kernel)) (
  zcons (zk_iconst (pc := 13) (z := 0) (by decide) (by decide +kernel)) (
  zcons (zk_bipush (pc := 14) (z := 9) (by decide) (by decide +kernel)) (
  zcons (zk_csi (pc := 16) 143 rfl zw_1002 zw_1003 zds_X8_in (by decide) zw_1004 zw_9 (by decide +kernel)) (
  zcons (zk_ifne (pc := 19) (off := 6) (by decide) (by decide +kernel)) (
  zcons (zk_ldc (pc := 22) zw_1005 (by decide +kernel)) (
  zcons (zk_reti (pc := 24) rfl (by decide +kernel)) (
  zcons (zk_aload_n (pc := 25) (j := 0) rfl (by decide +kernel)) (
  zcons (zk_cvv (pc := 26) 167 rfl (ci := 8) rfl zw_1129 zw_1131 zsel_X8_keeps zds_X8_keeps (by decide) zw_1132 zw_9 (by decide +kernel)) (
  zcons (zk_aload_n (pc := 29) (j := 0) rfl (by decide +kernel)) (
  zcons (zk_getr (pc := 30) (ci := 8) (j := 10) rfl zinX8 (by decide) zw_935 (by decide +kernel)) (
  zcons (zk_bipush (pc := 33) (z := 23) (by decide) (by decide +kernel)) (
  zcons (zk_iaload (pc := 35) (by decide +kernel)) (
  zcons (zk_istore_n (pc := 36) (j := 2) rfl (by decide +kernel)) (
  zcons (zk_aload_n (pc := 37) (j := 0) rfl (by decide +kernel)) (
  zcons (zk_getr (pc := 38) (ci := 8) (j := 10) rfl zinX8 (by decide) zw_935 (by decide +kernel)) (
  zcons (zk_bipush (pc := 41) (z := 23) (by decide) (by decide +kernel)) (
  zcons (zk_iload_n (pc := 43) (j := 1) rfl (by decide +kernel)) (
  zcons (zk_iastore (pc := 44) (by decide +kernel)) (
  zcons (zk_iload_n (pc := 45) (j := 2) rfl (by decide +kernel)) (
  zcons (zk_reti (pc := 46) rfl (by decide +kernel)) (znil))))))))))))))))))))))))))))
def tb_X8_ownerOf : List (Nat × ZP) := [(0, zo_i (-1000000) 2), (2, zo_is 2 3), (3, zo_i 0 4), (4, zo_is 3 5), (5, zo_il 3 6), (6, zo_i 5 7), (7, zo_icge 38 10), (10, zo_al 0 11), (11, zo_getr 8 10 14), (14, zo_i 26 16), (16, zo_il 3 17), (17, zo_bin (· + ·) 18), (18, zo_iald 19), (19, zo_il 1 20), (20, zo_csi 144 2 23), (23, zo_ifeq 30 26), (26, zo_il 3 27), (27, zo_goto 31), (30, zo_il 2 31), (31, zo_is 2 32), (32, zo_inc 3 1 35), (35, zo_goto 5), (38, zo_il 2 39), (39, zo_reti)]
def cu_X8_ownerOf : List (Nat × List Bool) := [(5, [true, true, true, true])]
set_option maxRecDepth 100000 in
set_option maxHeartbeats 4000000 in
theorem ok_X8_ownerOf : ∀ e ∈ tb_X8_ownerOf, ZOK zmt cX8_ownerOf RX8 1 e.1 e.2 :=
  zcons (zk_ldc (pc := 0) zw_1169 (by decide +kernel)) (
  zcons (zk_istore_n (pc := 2) (j := 2) rfl (by decide +kernel)) (
  zcons (zk_iconst (pc := 3) (z := 0) (by decide) (by decide +kernel)) (
  zcons (zk_istore_n (pc := 4) (j := 3) rfl (by decide +kernel)) (
  zcons (zk_iload_n (pc := 5) (j := 3) rfl (by decide +kernel)) (
  zcons (zk_iconst (pc := 6) (z := 5) (by decide) (by decide +kernel)) (
  zcons (zk_icge (pc := 7) (off := 31) (by decide) (by decide +kernel)) (
  zcons (zk_aload_n (pc := 10) (j := 0) rfl (by decide +kernel)) (
  zcons (zk_getr (pc := 11) (ci := 8) (j := 10) rfl zinX8 (by decide) zw_935 (by decide +kernel)) (
  zcons (zk_bipush (pc := 14) (z := 26) (by decide) (by decide +kernel)) (
  zcons (zk_iload_n (pc := 16) (j := 3) rfl (by decide +kernel)) (
  zcons (zk_iadd (pc := 17) (by decide +kernel)) (
  zcons (zk_iaload (pc := 18) (by decide +kernel)) (
  zcons (zk_iload_n (pc := 19) (j := 1) rfl (by decide +kernel)) (
  zcons (zk_csi (pc := 20) 144 rfl zw_1115 zw_1116 zds_X8_has (by decide) zw_1117 zw_9 (by decide +kernel)) (
  zcons (zk_ifeq (pc := 23) (off := 7) (by decide) (by decide +kernel)) (
  zcons (zk_iload_n (pc := 26) (j := 3) rfl (by decide +kernel)) (
  zcons (zk_goto (pc := 27) (off := 4) (by decide) (by decide +kernel)) (
  zcons (zk_iload_n (pc := 30) (j := 2) rfl (by decide +kernel)) (
  zcons (zk_istore_n (pc := 31) (j := 2) rfl (by decide +kernel)) (
  zcons (zk_iinc (pc := 32) (z := 1) (by decide) (by decide +kernel)) (
  zcons (zk_goto (pc := 35) (off := (-30)) (by decide) (by decide +kernel)) (
  zcons (zk_iload_n (pc := 38) (j := 2) rfl (by decide +kernel)) (
  zcons (zk_reti (pc := 39) rfl (by decide +kernel)) (znil))))))))))))))))))))))))
def tb_X8_cell : List (Nat × ZP) := [(0, zo_al 0 1), (1, zo_il 1 2), (2, zo_cvi 8 169 1 5), (5, zo_ifne 11 8), (8, zo_i (-1000001) 10), (10, zo_reti), (11, zo_il 2 12), (12, zo_sw [(0, 44), (1, 54), (2, 89), (3, 101)] 107), (44, zo_al 0 45), (45, zo_getr 8 10 48), (48, zo_i 31 50), (50, zo_il 1 51), (51, zo_bin (· + ·) 52), (52, zo_iald 53), (53, zo_reti), (54, zo_al 0 55), (55, zo_getr 8 10 58), (58, zo_i 25 60), (60, zo_iald 61), (61, zo_il 1 62), (62, zo_csi 144 2 65), (65, zo_ifeq 72 68), (68, zo_i 2 69), (69, zo_goto 88), (72, zo_al 0 73), (73, zo_cvi 8 172 0 76), (76, zo_il 1 77), (77, zo_csi 144 2 80), (80, zo_ifeq 87 83), (83, zo_i 0 84), (84, zo_goto 88), (87, zo_i 1 88), (88, zo_reti), (89, zo_al 0 90), (90, zo_getr 8 12 93), (93, zo_il 1 94), (94, zo_iald 95), (95, zo_al 0 96), (96, zo_cvi 8 172 0 99), (99, zo_bin (· &&& ·) 100), (100, zo_reti), (101, zo_al 0 102), (102, zo_il 1 103), (103, zo_cvi 8 186 1 106), (106, zo_reti), (107, zo_i (-1000001) 109), (109, zo_reti)]
def cu_X8_cell : List (Nat × List Bool) := []
set_option maxRecDepth 100000 in
set_option maxHeartbeats 4000000 in
theorem ok_X8_cell : ∀ e ∈ tb_X8_cell, ZOK zmt cX8_cell RX8 1 e.1 e.2 :=
  zcons (zk_aload_n (pc := 0) (j := 0) rfl (by decide +kernel)) (
  zcons (zk_iload_n (pc := 1) (j := 1) rfl (by decide +kernel)) (
  zcons (zk_cvi (pc := 2) 169 rfl (ci := 8) rfl zw_1149 zw_1151 zsel_X8_isCell zds_X8_isCell (by decide) zw_1152 zw_9 (by decide +kernel)) (
  zcons (zk_ifne (pc := 5) (off := 6) (by decide) (by decide +kernel)) (
  zcons (zk_ldc (pc := 8) zw_1005 (by decide +kernel)) (
  zcons (zk_reti (pc := 10) rfl (by decide +kernel)) (
  zcons (zk_iload_n (pc := 11) (j := 2) rfl (by decide +kernel)) (
  zcons (zk_table (pc := 12) (dflt := 95) (lw := 0) (hi := 3) (offs := #[32, 42, 77, 89]) (len := 32) (by decide +kernel) (by decide +kernel)) (
  zcons (zk_aload_n (pc := 44) (j := 0) rfl (by decide +kernel)) (
  zcons (zk_getr (pc := 45) (ci := 8) (j := 10) rfl zinX8 (by decide) zw_935 (by decide +kernel)) (
  zcons (zk_bipush (pc := 48) (z := 31) (by decide) (by decide +kernel)) (
  zcons (zk_iload_n (pc := 50) (j := 1) rfl (by decide +kernel)) (
  zcons (zk_iadd (pc := 51) (by decide +kernel)) (
  zcons (zk_iaload (pc := 52) (by decide +kernel)) (
  zcons (zk_reti (pc := 53) rfl (by decide +kernel)) (
  zcons (zk_aload_n (pc := 54) (j := 0) rfl (by decide +kernel)) (
  zcons (zk_getr (pc := 55) (ci := 8) (j := 10) rfl zinX8 (by decide) zw_935 (by decide +kernel)) (
  zcons (zk_bipush (pc := 58) (z := 25) (by decide) (by decide +kernel)) (
  zcons (zk_iaload (pc := 60) (by decide +kernel)) (
  zcons (zk_iload_n (pc := 61) (j := 1) rfl (by decide +kernel)) (
  zcons (zk_csi (pc := 62) 144 rfl zw_1115 zw_1116 zds_X8_has (by decide) zw_1117 zw_9 (by decide +kernel)) (
  zcons (zk_ifeq (pc := 65) (off := 7) (by decide) (by decide +kernel)) (
  zcons (zk_iconst (pc := 68) (z := 2) (by decide) (by decide +kernel)) (
  zcons (zk_goto (pc := 69) (off := 19) (by decide) (by decide +kernel)) (
  zcons (zk_aload_n (pc := 72) (j := 0) rfl (by decide +kernel)) (
  zcons (zk_cvi (pc := 73) 172 rfl (ci := 8) rfl zw_1100 zw_1102 zsel_X8_on zds_X8_on (by decide) zw_1103 zw_9 (by decide +kernel)) (
  zcons (zk_iload_n (pc := 76) (j := 1) rfl (by decide +kernel)) (
  zcons (zk_csi (pc := 77) 144 rfl zw_1115 zw_1116 zds_X8_has (by decide) zw_1117 zw_9 (by decide +kernel)) (
  zcons (zk_ifeq (pc := 80) (off := 7) (by decide) (by decide +kernel)) (
  zcons (zk_iconst (pc := 83) (z := 0) (by decide) (by decide +kernel)) (
  zcons (zk_goto (pc := 84) (off := 4) (by decide) (by decide +kernel)) (
  zcons (zk_iconst (pc := 87) (z := 1) (by decide) (by decide +kernel)) (
  zcons (zk_reti (pc := 88) rfl (by decide +kernel)) (
  zcons (zk_aload_n (pc := 89) (j := 0) rfl (by decide +kernel)) (
  zcons (zk_getr (pc := 90) (ci := 8) (j := 12) rfl zinX8 (by decide) zw_937 (by decide +kernel)) (
  zcons (zk_iload_n (pc := 93) (j := 1) rfl (by decide +kernel)) (
  zcons (zk_iaload (pc := 94) (by decide +kernel)) (
  zcons (zk_aload_n (pc := 95) (j := 0) rfl (by decide +kernel)) (
  zcons (zk_cvi (pc := 96) 172 rfl (ci := 8) rfl zw_1100 zw_1102 zsel_X8_on zds_X8_on (by decide) zw_1103 zw_9 (by decide +kernel)) (
  zcons (zk_iand (pc := 99) (by decide +kernel)) (
  zcons (zk_reti (pc := 100) rfl (by decide +kernel)) (
  zcons (zk_aload_n (pc := 101) (j := 0) rfl (by decide +kernel)) (
  zcons (zk_iload_n (pc := 102) (j := 1) rfl (by decide +kernel)) (
  zcons (zk_cvi (pc := 103) 186 rfl (ci := 8) rfl zw_1165 zw_1167 zsel_X8_ownerOf zds_X8_ownerOf (by decide) zw_1168 zw_9 (by decide +kernel)) (
  zcons (zk_reti (pc := 106) rfl (by decide +kernel)) (
  zcons (zk_ldc (pc := 107) zw_1005 (by decide +kernel)) (
  zcons (zk_reti (pc := 109) rfl (by decide +kernel)) (znil)))))))))))))))))))))))))))))))))))))))))))))))
def tb_X8_customer : List (Nat × ZP) := [(0, zo_al 0 1), (1, zo_il 1 2), (2, zo_cvi 8 170 1 5), (5, zo_ifne 11 8), (8, zo_i (-1000001) 10), (10, zo_reti), (11, zo_il 2 12), (12, zo_sw [(0, 40), (1, 50), (2, 60)] 70), (40, zo_al 0 41), (41, zo_getr 8 10 44), (44, zo_i 13 46), (46, zo_il 1 47), (47, zo_bin (· + ·) 48), (48, zo_iald 49), (49, zo_reti), (50, zo_al 0 51), (51, zo_getr 8 10 54), (54, zo_i 18 56), (56, zo_il 1 57), (57, zo_bin (· + ·) 58), (58, zo_iald 59), (59, zo_reti), (60, zo_al 0 61), (61, zo_getr 8 10 64), (64, zo_i 26 66), (66, zo_il 1 67), (67, zo_bin (· + ·) 68), (68, zo_iald 69), (69, zo_reti), (70, zo_i (-1000001) 72), (72, zo_reti)]
def cu_X8_customer : List (Nat × List Bool) := []
set_option maxRecDepth 100000 in
set_option maxHeartbeats 4000000 in
theorem ok_X8_customer : ∀ e ∈ tb_X8_customer, ZOK zmt cX8_customer RX8 1 e.1 e.2 :=
  zcons (zk_aload_n (pc := 0) (j := 0) rfl (by decide +kernel)) (
  zcons (zk_iload_n (pc := 1) (j := 1) rfl (by decide +kernel)) (
  zcons (zk_cvi (pc := 2) 170 rfl (ci := 8) rfl zw_1092 zw_1094 zsel_X8_isCustomer zds_X8_isCustomer (by decide) zw_1095 zw_9 (by decide +kernel)) (
  zcons (zk_ifne (pc := 5) (off := 6) (by decide) (by decide +kernel)) (
  zcons (zk_ldc (pc := 8) zw_1005 (by decide +kernel)) (
  zcons (zk_reti (pc := 10) rfl (by decide +kernel)) (
  zcons (zk_iload_n (pc := 11) (j := 2) rfl (by decide +kernel)) (
  zcons (zk_table (pc := 12) (dflt := 58) (lw := 0) (hi := 2) (offs := #[28, 38, 48]) (len := 28) (by decide +kernel) (by decide +kernel)) (
  zcons (zk_aload_n (pc := 40) (j := 0) rfl (by decide +kernel)) (
  zcons (zk_getr (pc := 41) (ci := 8) (j := 10) rfl zinX8 (by decide) zw_935 (by decide +kernel)) (
  zcons (zk_bipush (pc := 44) (z := 13) (by decide) (by decide +kernel)) (
  zcons (zk_iload_n (pc := 46) (j := 1) rfl (by decide +kernel)) (
  zcons (zk_iadd (pc := 47) (by decide +kernel)) (
  zcons (zk_iaload (pc := 48) (by decide +kernel)) (
  zcons (zk_reti (pc := 49) rfl (by decide +kernel)) (
  zcons (zk_aload_n (pc := 50) (j := 0) rfl (by decide +kernel)) (
  zcons (zk_getr (pc := 51) (ci := 8) (j := 10) rfl zinX8 (by decide) zw_935 (by decide +kernel)) (
  zcons (zk_bipush (pc := 54) (z := 18) (by decide) (by decide +kernel)) (
  zcons (zk_iload_n (pc := 56) (j := 1) rfl (by decide +kernel)) (
  zcons (zk_iadd (pc := 57) (by decide +kernel)) (
  zcons (zk_iaload (pc := 58) (by decide +kernel)) (
  zcons (zk_reti (pc := 59) rfl (by decide +kernel)) (
  zcons (zk_aload_n (pc := 60) (j := 0) rfl (by decide +kernel)) (
  zcons (zk_getr (pc := 61) (ci := 8) (j := 10) rfl zinX8 (by decide) zw_935 (by decide +kernel)) (
  zcons (zk_bipush (pc := 64) (z := 26) (by decide) (by decide +kernel)) (
  zcons (zk_iload_n (pc := 66) (j := 1) rfl (by decide +kernel)) (
  zcons (zk_iadd (pc := 67) (by decide +kernel)) (
  zcons (zk_iaload (pc := 68) (by decide +kernel)) (
  zcons (zk_reti (pc := 69) rfl (by decide +kernel)) (
  zcons (zk_ldc (pc := 70) zw_1005 (by decide +kernel)) (
  zcons (zk_reti (pc := 72) rfl (by decide +kernel)) (znil)))))))))))))))))))))))))))))))
def tb_X8_stand : List (Nat × ZP) := [(0, zo_al 0 1), (1, zo_getr 8 10 4), (4, zo_i 0 5), (5, zo_iald 6), (6, zo_ifne 12 9), (9, zo_i (-1000002) 11), (11, zo_reti), (12, zo_il 1 13), (13, zo_sw [(0, 48), (1, 53), (2, 58), (3, 66), (4, 74)] 82), (48, zo_al 0 49), (49, zo_cvi 8 172 0 52), (52, zo_reti), (53, zo_al 0 54), (54, zo_cvi 8 173 0 57), (57, zo_reti), (58, zo_al 0 59), (59, zo_getr 8 10 62), (62, zo_i 24 64), (64, zo_iald 65), (65, zo_reti), (66, zo_al 0 67), (67, zo_getr 8 10 70), (70, zo_i 23 72), (72, zo_iald 73), (73, zo_reti), (74, zo_al 0 75), (75, zo_getr 8 10 78), (78, zo_i 25 80), (80, zo_iald 81), (81, zo_reti), (82, zo_i (-1000001) 84), (84, zo_reti)]
def cu_X8_stand : List (Nat × List Bool) := []
set_option maxRecDepth 100000 in
set_option maxHeartbeats 4000000 in
theorem ok_X8_stand : ∀ e ∈ tb_X8_stand, ZOK zmt cX8_stand RX8 1 e.1 e.2 :=
  zcons (zk_aload_n (pc := 0) (j := 0) rfl (by decide +kernel)) (
  zcons (zk_getr (pc := 1) (ci := 8) (j := 10) rfl zinX8 (by decide) zw_935 (by decide +kernel)) (
  zcons (zk_iconst (pc := 4) (z := 0) (by decide) (by decide +kernel)) (
  zcons (zk_iaload (pc := 5) (by decide +kernel)) (
  zcons (zk_ifne (pc := 6) (off := 6) (by decide) (by decide +kernel)) (
  zcons (zk_ldc (pc := 9) zw_1087 (by decide +kernel)) (
  zcons (zk_reti (pc := 11) rfl (by decide +kernel)) (
  zcons (zk_iload_n (pc := 12) (j := 1) rfl (by decide +kernel)) (
  zcons (zk_table (pc := 13) (dflt := 69) (lw := 0) (hi := 4) (offs := #[35, 40, 45, 53, 61]) (len := 35) (by decide +kernel) (by decide +kernel)) (
  zcons (zk_aload_n (pc := 48) (j := 0) rfl (by decide +kernel)) (
  zcons (zk_cvi (pc := 49) 172 rfl (ci := 8) rfl zw_1100 zw_1102 zsel_X8_on zds_X8_on (by decide) zw_1103 zw_9 (by decide +kernel)) (
  zcons (zk_reti (pc := 52) rfl (by decide +kernel)) (
  zcons (zk_aload_n (pc := 53) (j := 0) rfl (by decide +kernel)) (
  zcons (zk_cvi (pc := 54) 173 rfl (ci := 8) rfl zw_1178 zw_1180 zsel_X8_servedNow zds_X8_servedNow (by decide) zw_1181 zw_9 (by decide +kernel)) (
  zcons (zk_reti (pc := 57) rfl (by decide +kernel)) (
  zcons (zk_aload_n (pc := 58) (j := 0) rfl (by decide +kernel)) (
  zcons (zk_getr (pc := 59) (ci := 8) (j := 10) rfl zinX8 (by decide) zw_935 (by decide +kernel)) (
  zcons (zk_bipush (pc := 62) (z := 24) (by decide) (by decide +kernel)) (
  zcons (zk_iaload (pc := 64) (by decide +kernel)) (
  zcons (zk_reti (pc := 65) rfl (by decide +kernel)) (
  zcons (zk_aload_n (pc := 66) (j := 0) rfl (by decide +kernel)) (
  zcons (zk_getr (pc := 67) (ci := 8) (j := 10) rfl zinX8 (by decide) zw_935 (by decide +kernel)) (
  zcons (zk_bipush (pc := 70) (z := 23) (by decide) (by decide +kernel)) (
  zcons (zk_iaload (pc := 72) (by decide +kernel)) (
  zcons (zk_reti (pc := 73) rfl (by decide +kernel)) (
  zcons (zk_aload_n (pc := 74) (j := 0) rfl (by decide +kernel)) (
  zcons (zk_getr (pc := 75) (ci := 8) (j := 10) rfl zinX8 (by decide) zw_935 (by decide +kernel)) (
  zcons (zk_bipush (pc := 78) (z := 25) (by decide) (by decide +kernel)) (
  zcons (zk_iaload (pc := 80) (by decide +kernel)) (
  zcons (zk_reti (pc := 81) rfl (by decide +kernel)) (
  zcons (zk_ldc (pc := 82) zw_1005 (by decide +kernel)) (
  zcons (zk_reti (pc := 84) rfl (by decide +kernel)) (znil))))))))))))))))))))))))))))))))
def tb_X8_partOf : List (Nat × ZP) := [(0, zo_il 1 1), (1, zo_is 3 2), (2, zo_i 0 3), (3, zo_is 4 5), (5, zo_il 4 7), (7, zo_il 2 8), (8, zo_icge 35 11), (11, zo_il 3 12), (12, zo_ifle 35 15), (15, zo_il 3 16), (16, zo_al 0 17), (17, zo_il 3 18), (18, zo_il 3 19), (19, zo_csi 175 1 22), (22, zo_cvi 8 174 2 25), (25, zo_i (-1) 26), (26, zo_bin (· ^^^ ·) 27), (27, zo_bin (· &&& ·) 28), (28, zo_is 3 29), (29, zo_inc 4 1 32), (32, zo_goto 5), (35, zo_il 3 36), (36, zo_ifle 51 39), (39, zo_al 0 40), (40, zo_il 3 41), (41, zo_il 3 42), (42, zo_csi 175 1 45), (45, zo_cvi 8 174 2 48), (48, zo_goto 52), (51, zo_i 0 52), (52, zo_reti)]
def cu_X8_partOf : List (Nat × List Bool) := [(5, [true, false, true, true, true])]
set_option maxRecDepth 100000 in
set_option maxHeartbeats 4000000 in
theorem ok_X8_partOf : ∀ e ∈ tb_X8_partOf, ZOK zmt cX8_partOf RX8 1 e.1 e.2 :=
  zcons (zk_iload_n (pc := 0) (j := 1) rfl (by decide +kernel)) (
  zcons (zk_istore_n (pc := 1) (j := 3) rfl (by decide +kernel)) (
  zcons (zk_iconst (pc := 2) (z := 0) (by decide) (by decide +kernel)) (
  zcons (zk_istore (pc := 3) (by decide +kernel)) (
  zcons (zk_iload (pc := 5) (by decide +kernel)) (
  zcons (zk_iload_n (pc := 7) (j := 2) rfl (by decide +kernel)) (
  zcons (zk_icge (pc := 8) (off := 27) (by decide) (by decide +kernel)) (
  zcons (zk_iload_n (pc := 11) (j := 3) rfl (by decide +kernel)) (
  zcons (zk_ifle (pc := 12) (off := 23) (by decide) (by decide +kernel)) (
  zcons (zk_iload_n (pc := 15) (j := 3) rfl (by decide +kernel)) (
  zcons (zk_aload_n (pc := 16) (j := 0) rfl (by decide +kernel)) (
  zcons (zk_iload_n (pc := 17) (j := 3) rfl (by decide +kernel)) (
  zcons (zk_iload_n (pc := 18) (j := 3) rfl (by decide +kernel)) (
  zcons (zk_csi (pc := 19) 175 rfl zw_1112 zw_1113 zds_X8_lowest (by decide) zw_1114 zw_9 (by decide +kernel)) (
  zcons (zk_cvi (pc := 22) 174 rfl (ci := 8) rfl zw_1118 zw_1120 zsel_X8_reach zds_X8_reach (by decide) zw_1121 zw_9 (by decide +kernel)) (
  zcons (zk_iconst (pc := 25) (z := (-1)) (by decide) (by decide +kernel)) (
  zcons (zk_ixor (pc := 26) (by decide +kernel)) (
  zcons (zk_iand (pc := 27) (by decide +kernel)) (
  zcons (zk_istore_n (pc := 28) (j := 3) rfl (by decide +kernel)) (
  zcons (zk_iinc (pc := 29) (z := 1) (by decide) (by decide +kernel)) (
  zcons (zk_goto (pc := 32) (off := (-27)) (by decide) (by decide +kernel)) (
  zcons (zk_iload_n (pc := 35) (j := 3) rfl (by decide +kernel)) (
  zcons (zk_ifle (pc := 36) (off := 15) (by decide) (by decide +kernel)) (
  zcons (zk_aload_n (pc := 39) (j := 0) rfl (by decide +kernel)) (
  zcons (zk_iload_n (pc := 40) (j := 3) rfl (by decide +kernel)) (
  zcons (zk_iload_n (pc := 41) (j := 3) rfl (by decide +kernel)) (
  zcons (zk_csi (pc := 42) 175 rfl zw_1112 zw_1113 zds_X8_lowest (by decide) zw_1114 zw_9 (by decide +kernel)) (
  zcons (zk_cvi (pc := 45) 174 rfl (ci := 8) rfl zw_1118 zw_1120 zsel_X8_reach zds_X8_reach (by decide) zw_1121 zw_9 (by decide +kernel)) (
  zcons (zk_goto (pc := 48) (off := 4) (by decide) (by decide +kernel)) (
  zcons (zk_iconst (pc := 51) (z := 0) (by decide) (by decide +kernel)) (
  zcons (zk_reti (pc := 52) rfl (by decide +kernel)) (znil)))))))))))))))))))))))))))))))
def tb_X8_manyParts : List (Nat × ZP) := [(0, zo_i 0 1), (1, zo_is 2 2), (2, zo_al 0 3), (3, zo_il 1 4), (4, zo_il 2 5), (5, zo_cvi 8 190 2 8), (8, zo_ifle 17 11), (11, zo_inc 2 1 14), (14, zo_goto 2), (17, zo_il 2 18), (18, zo_reti)]
def cu_X8_manyParts : List (Nat × List Bool) := [(2, [true, true, true])]
set_option maxRecDepth 100000 in
set_option maxHeartbeats 4000000 in
theorem ok_X8_manyParts : ∀ e ∈ tb_X8_manyParts, ZOK zmt cX8_manyParts RX8 1 e.1 e.2 :=
  zcons (zk_iconst (pc := 0) (z := 0) (by decide) (by decide +kernel)) (
  zcons (zk_istore_n (pc := 1) (j := 2) rfl (by decide +kernel)) (
  zcons (zk_aload_n (pc := 2) (j := 0) rfl (by decide +kernel)) (
  zcons (zk_iload_n (pc := 3) (j := 1) rfl (by decide +kernel)) (
  zcons (zk_iload_n (pc := 4) (j := 2) rfl (by decide +kernel)) (
  zcons (zk_cvi (pc := 5) 190 rfl (ci := 8) rfl zw_1190 zw_1192 zsel_X8_partOf zds_X8_partOf (by decide) zw_1193 zw_9 (by decide +kernel)) (
  zcons (zk_ifle (pc := 8) (off := 9) (by decide) (by decide +kernel)) (
  zcons (zk_iinc (pc := 11) (z := 1) (by decide) (by decide +kernel)) (
  zcons (zk_goto (pc := 14) (off := (-12)) (by decide) (by decide +kernel)) (
  zcons (zk_iload_n (pc := 17) (j := 2) rfl (by decide +kernel)) (
  zcons (zk_reti (pc := 18) rfl (by decide +kernel)) (znil)))))))))))
def tb_X8_piece : List (Nat × ZP) := [(0, zo_al 0 1), (1, zo_il 1 2), (2, zo_cvi 8 177 1 5), (5, zo_ifne 11 8), (8, zo_i (-1000001) 10), (10, zo_reti), (11, zo_il 2 12), (12, zo_sw [(0, 44), (1, 50), (2, 56), (3, 61)] 74), (44, zo_al 0 45), (45, zo_il 1 46), (46, zo_cvi 8 178 1 49), (49, zo_reti), (50, zo_al 0 51), (51, zo_il 1 52), (52, zo_cvi 8 179 1 55), (55, zo_reti), (56, zo_il 1 57), (57, zo_csi 145 1 60), (60, zo_reti), (61, zo_al 0 62), (62, zo_al 0 63), (63, zo_cvi 8 172 0 66), (66, zo_il 1 67), (67, zo_i (-1) 68), (68, zo_bin (· ^^^ ·) 69), (69, zo_bin (· &&& ·) 70), (70, zo_cvi 8 191 1 73), (73, zo_reti), (74, zo_i (-1000001) 76), (76, zo_reti)]
def cu_X8_piece : List (Nat × List Bool) := []
set_option maxRecDepth 100000 in
set_option maxHeartbeats 4000000 in
theorem ok_X8_piece : ∀ e ∈ tb_X8_piece, ZOK zmt cX8_piece RX8 1 e.1 e.2 :=
  zcons (zk_aload_n (pc := 0) (j := 0) rfl (by decide +kernel)) (
  zcons (zk_iload_n (pc := 1) (j := 1) rfl (by decide +kernel)) (
  zcons (zk_cvi (pc := 2) 177 rfl (ci := 8) rfl zw_1096 zw_1098 zsel_X8_isPiece zds_X8_isPiece (by decide) zw_1099 zw_9 (by decide +kernel)) (
  zcons (zk_ifne (pc := 5) (off := 6) (by decide) (by decide +kernel)) (
  zcons (zk_ldc (pc := 8) zw_1005 (by decide +kernel)) (
  zcons (zk_reti (pc := 10) rfl (by decide +kernel)) (
  zcons (zk_iload_n (pc := 11) (j := 2) rfl (by decide +kernel)) (
  zcons (zk_table (pc := 12) (dflt := 62) (lw := 0) (hi := 3) (offs := #[32, 38, 44, 49]) (len := 32) (by decide +kernel) (by decide +kernel)) (
  zcons (zk_aload_n (pc := 44) (j := 0) rfl (by decide +kernel)) (
  zcons (zk_iload_n (pc := 45) (j := 1) rfl (by decide +kernel)) (
  zcons (zk_cvi (pc := 46) 178 rfl (ci := 8) rfl zw_1122 zw_1124 zsel_X8_pays zds_X8_pays (by decide) zw_1125 zw_9 (by decide +kernel)) (
  zcons (zk_reti (pc := 49) rfl (by decide +kernel)) (
  zcons (zk_aload_n (pc := 50) (j := 0) rfl (by decide +kernel)) (
  zcons (zk_iload_n (pc := 51) (j := 1) rfl (by decide +kernel)) (
  zcons (zk_cvi (pc := 52) 179 rfl (ci := 8) rfl zw_1133 zw_1135 zsel_X8_tears zds_X8_tears (by decide) zw_1136 zw_9 (by decide +kernel)) (
  zcons (zk_reti (pc := 55) rfl (by decide +kernel)) (
  zcons (zk_iload_n (pc := 56) (j := 1) rfl (by decide +kernel)) (
  zcons (zk_csi (pc := 57) 145 rfl zw_1126 zw_1127 zds_X8_ones (by decide) zw_1128 zw_9 (by decide +kernel)) (
  zcons (zk_reti (pc := 60) rfl (by decide +kernel)) (
  zcons (zk_aload_n (pc := 61) (j := 0) rfl (by decide +kernel)) (
  zcons (zk_aload_n (pc := 62) (j := 0) rfl (by decide +kernel)) (
  zcons (zk_cvi (pc := 63) 172 rfl (ci := 8) rfl zw_1100 zw_1102 zsel_X8_on zds_X8_on (by decide) zw_1103 zw_9 (by decide +kernel)) (
  zcons (zk_iload_n (pc := 66) (j := 1) rfl (by decide +kernel)) (
  zcons (zk_iconst (pc := 67) (z := (-1)) (by decide) (by decide +kernel)) (
  zcons (zk_ixor (pc := 68) (by decide +kernel)) (
  zcons (zk_iand (pc := 69) (by decide +kernel)) (
  zcons (zk_cvi (pc := 70) 191 rfl (ci := 8) rfl zw_1186 zw_1188 zsel_X8_manyParts zds_X8_manyParts (by decide) zw_1189 zw_9 (by decide +kernel)) (
  zcons (zk_reti (pc := 73) rfl (by decide +kernel)) (
  zcons (zk_ldc (pc := 74) zw_1005 (by decide +kernel)) (
  zcons (zk_reti (pc := 76) rfl (by decide +kernel)) (znil))))))))))))))))))))))))))))))
def tb_X8_parts : List (Nat × ZP) := [(0, zo_al 0 1), (1, zo_getr 8 10 4), (4, zo_i 0 5), (5, zo_iald 6), (6, zo_ifne 12 9), (9, zo_i (-1000002) 11), (11, zo_reti), (12, zo_il 1 13), (13, zo_i (-1) 14), (14, zo_icge 20 17), (17, zo_i (-1000001) 19), (19, zo_reti), (20, zo_il 1 21), (21, zo_i (-1) 22), (22, zo_icne 29 25), (25, zo_i 0 26), (26, zo_goto 49), (29, zo_al 0 30), (30, zo_al 0 31), (31, zo_cvi 8 172 0 34), (34, zo_il 1 35), (35, zo_i 10 37), (37, zo_icge 44 40), (40, zo_il 1 41), (41, zo_goto 46), (44, zo_i 10 46), (46, zo_cvi 8 190 2 49), (49, zo_is 2 50), (50, zo_il 1 51), (51, zo_i (-1) 52), (52, zo_icne 66 55), (55, zo_al 0 56), (56, zo_al 0 57), (57, zo_cvi 8 172 0 60), (60, zo_cvi 8 191 1 63), (63, zo_goto 76), (66, zo_il 2 67), (67, zo_ifle 74 70), (70, zo_il 2 71), (71, zo_goto 76), (74, zo_i (-1000000) 76), (76, zo_reti)]
def cu_X8_parts : List (Nat × List Bool) := []
set_option maxRecDepth 100000 in
set_option maxHeartbeats 4000000 in
theorem ok_X8_parts : ∀ e ∈ tb_X8_parts, ZOK zmt cX8_parts RX8 1 e.1 e.2 :=
  zcons (zk_aload_n (pc := 0) (j := 0) rfl (by decide +kernel)) (
  zcons (zk_getr (pc := 1) (ci := 8) (j := 10) rfl zinX8 (by decide) zw_935 (by decide +kernel)) (
  zcons (zk_iconst (pc := 4) (z := 0) (by decide) (by decide +kernel)) (
  zcons (zk_iaload (pc := 5) (by decide +kernel)) (
  zcons (zk_ifne (pc := 6) (off := 6) (by decide) (by decide +kernel)) (
  zcons (zk_ldc (pc := 9) zw_1087 (by decide +kernel)) (
  zcons (zk_reti (pc := 11) rfl (by decide +kernel)) (
  zcons (zk_iload_n (pc := 12) (j := 1) rfl (by decide +kernel)) (
  zcons (zk_iconst (pc := 13) (z := (-1)) (by decide) (by decide +kernel)) (
  zcons (zk_icge (pc := 14) (off := 6) (by decide) (by decide +kernel)) (
  zcons (zk_ldc (pc := 17) zw_1005 (by decide +kernel)) (
  zcons (zk_reti (pc := 19) rfl (by decide +kernel)) (
  zcons (zk_iload_n (pc := 20) (j := 1) rfl (by decide +kernel)) (
  zcons (zk_iconst (pc := 21) (z := (-1)) (by decide) (by decide +kernel)) (
  zcons (zk_icne (pc := 22) (off := 7) (by decide) (by decide +kernel)) (
  zcons (zk_iconst (pc := 25) (z := 0) (by decide) (by decide +kernel)) (
  zcons (zk_goto (pc := 26) (off := 23) (by decide) (by decide +kernel)) (
  zcons (zk_aload_n (pc := 29) (j := 0) rfl (by decide +kernel)) (
  zcons (zk_aload_n (pc := 30) (j := 0) rfl (by decide +kernel)) (
  zcons (zk_cvi (pc := 31) 172 rfl (ci := 8) rfl zw_1100 zw_1102 zsel_X8_on zds_X8_on (by decide) zw_1103 zw_9 (by decide +kernel)) (
  zcons (zk_iload_n (pc := 34) (j := 1) rfl (by decide +kernel)) (
  zcons (zk_bipush (pc := 35) (z := 10) (by decide) (by decide +kernel)) (
  zcons (zk_icge (pc := 37) (off := 7) (by decide) (by decide +kernel)) (
  zcons (zk_iload_n (pc := 40) (j := 1) rfl (by decide +kernel)) (
  zcons (zk_goto (pc := 41) (off := 5) (by decide) (by decide +kernel)) (
  zcons (zk_bipush (pc := 44) (z := 10) (by decide) (by decide +kernel)) (
  zcons (zk_cvi (pc := 46) 190 rfl (ci := 8) rfl zw_1190 zw_1192 zsel_X8_partOf zds_X8_partOf (by decide) zw_1193 zw_9 (by decide +kernel)) (
  zcons (zk_istore_n (pc := 49) (j := 2) rfl (by decide +kernel)) (
  zcons (zk_iload_n (pc := 50) (j := 1) rfl (by decide +kernel)) (
  zcons (zk_iconst (pc := 51) (z := (-1)) (by decide) (by decide +kernel)) (
  zcons (zk_icne (pc := 52) (off := 14) (by decide) (by decide +kernel)) (
  zcons (zk_aload_n (pc := 55) (j := 0) rfl (by decide +kernel)) (
  zcons (zk_aload_n (pc := 56) (j := 0) rfl (by decide +kernel)) (
  zcons (zk_cvi (pc := 57) 172 rfl (ci := 8) rfl zw_1100 zw_1102 zsel_X8_on zds_X8_on (by decide) zw_1103 zw_9 (by decide +kernel)) (
  zcons (zk_cvi (pc := 60) 191 rfl (ci := 8) rfl zw_1186 zw_1188 zsel_X8_manyParts zds_X8_manyParts (by decide) zw_1189 zw_9 (by decide +kernel)) (
  zcons (zk_goto (pc := 63) (off := 13) (by decide) (by decide +kernel)) (
  zcons (zk_iload_n (pc := 66) (j := 2) rfl (by decide +kernel)) (
  zcons (zk_ifle (pc := 67) (off := 7) (by decide) (by decide +kernel)) (
  zcons (zk_iload_n (pc := 70) (j := 2) rfl (by decide +kernel)) (
  zcons (zk_goto (pc := 71) (off := 5) (by decide) (by decide +kernel)) (
  zcons (zk_ldc (pc := 74) zw_1169 (by decide +kernel)) (
  zcons (zk_reti (pc := 76) rfl (by decide +kernel)) (znil))))))))))))))))))))))))))))))))))))))))))
def tb_X8_surveys : List (Nat × ZP) := [(0, zo_i 0 1), (1, zo_is 1 2), (2, zo_il 1 3), (3, zo_i 1 4), (4, zo_al 0 5), (5, zo_getr 8 10 8), (8, zo_i 0 9), (9, zo_iald 10), (10, zo_bin zshl 11), (11, zo_icge 49 14), (14, zo_al 0 15), (15, zo_getr 8 17 18), (18, zo_il 1 19), (19, zo_al 0 20), (20, zo_il 1 21), (21, zo_cvi 8 176 1 24), (24, zo_ifeq 41 27), (27, zo_al 0 28), (28, zo_il 1 29), (29, zo_cvi 8 178 1 32), (32, zo_i 1 33), (33, zo_bin (· + ·) 34), (34, zo_i2l 35), (35, zo_i 32 37), (37, zo_lsh zlshl 38), (38, zo_goto 42), (41, zo_l 0 42), (42, zo_last 43), (43, zo_inc 1 1 46), (46, zo_goto 2), (49, zo_retv)]
def cu_X8_surveys : List (Nat × List Bool) := [(2, [true, true])]
set_option maxRecDepth 100000 in
set_option maxHeartbeats 4000000 in
theorem ok_X8_surveys : ∀ e ∈ tb_X8_surveys, ZOK zmt cX8_surveys RX8 0 e.1 e.2 :=
  zcons (zk_iconst (pc := 0) (z := 0) (by decide) (by decide +kernel)) (
  zcons (zk_istore_n (pc := 1) (j := 1) rfl (by decide +kernel)) (
  zcons (zk_iload_n (pc := 2) (j := 1) rfl (by decide +kernel)) (
  zcons (zk_iconst (pc := 3) (z := 1) (by decide) (by decide +kernel)) (
  zcons (zk_aload_n (pc := 4) (j := 0) rfl (by decide +kernel)) (
  zcons (zk_getr (pc := 5) (ci := 8) (j := 10) rfl zinX8 (by decide) zw_935 (by decide +kernel)) (
  zcons (zk_iconst (pc := 8) (z := 0) (by decide) (by decide +kernel)) (
  zcons (zk_iaload (pc := 9) (by decide +kernel)) (
  zcons (zk_ishl (pc := 10) (by decide +kernel)) (
  zcons (zk_icge (pc := 11) (off := 38) (by decide) (by decide +kernel)) (
  zcons (zk_aload_n (pc := 14) (j := 0) rfl (by decide +kernel)) (
  zcons (zk_getr (pc := 15) (ci := 8) (j := 17) rfl zinX8 (by decide) zw_942 (by decide +kernel)) (
  zcons (zk_iload_n (pc := 18) (j := 1) rfl (by decide +kernel)) (
  zcons (zk_aload_n (pc := 19) (j := 0) rfl (by decide +kernel)) (
  zcons (zk_iload_n (pc := 20) (j := 1) rfl (by decide +kernel)) (
  zcons (zk_cvi (pc := 21) 176 rfl (ci := 8) rfl zw_1108 zw_1110 zsel_X8_hangs zds_X8_hangs (by decide) zw_1111 zw_9 (by decide +kernel)) (
  zcons (zk_ifeq (pc := 24) (off := 17) (by decide) (by decide +kernel)) (
  zcons (zk_aload_n (pc := 27) (j := 0) rfl (by decide +kernel)) (
  zcons (zk_iload_n (pc := 28) (j := 1) rfl (by decide +kernel)) (
  zcons (zk_cvi (pc := 29) 178 rfl (ci := 8) rfl zw_1122 zw_1124 zsel_X8_pays zds_X8_pays (by decide) zw_1125 zw_9 (by decide +kernel)) (
  zcons (zk_iconst (pc := 32) (z := 1) (by decide) (by decide +kernel)) (
  zcons (zk_iadd (pc := 33) (by decide +kernel)) (
  zcons (zk_i2l (pc := 34) (by decide +kernel)) (
  zcons (zk_bipush (pc := 35) (z := 32) (by decide) (by decide +kernel)) (
  zcons (zk_lshl (pc := 37) (by decide +kernel)) (
  zcons (zk_goto (pc := 38) (off := 4) (by decide) (by decide +kernel)) (
  zcons (zk_lconst (pc := 41) (z := 0) (by decide) (by decide +kernel)) (
  zcons (zk_lastore (pc := 42) (by decide +kernel)) (
  zcons (zk_iinc (pc := 43) (z := 1) (by decide) (by decide +kernel)) (
  zcons (zk_goto (pc := 46) (off := (-44)) (by decide) (by decide +kernel)) (
  zcons (zk_retv (pc := 49) rfl (by decide +kernel)) (znil)))))))))))))))))))))))))))))))
def tb_X8_paysBy : List (Nat × ZP) := [(0, zo_il 1 1), (1, zo_al 0 2), (2, zo_cvi 8 171 0 5), (5, zo_bin (· &&& ·) 6), (6, zo_ifne 24 9), (9, zo_al 0 10), (10, zo_getr 8 17 13), (13, zo_il 1 14), (14, zo_lald 15), (15, zo_i 32 17), (17, zo_lsh zlshr 18), (18, zo_l2i 19), (19, zo_i 1 20), (20, zo_bin (· - ·) 21), (21, zo_goto 25), (24, zo_i (-1) 25), (25, zo_reti)]
def cu_X8_paysBy : List (Nat × List Bool) := []
set_option maxRecDepth 100000 in
set_option maxHeartbeats 4000000 in
theorem ok_X8_paysBy : ∀ e ∈ tb_X8_paysBy, ZOK zmt cX8_paysBy RX8 1 e.1 e.2 :=
  zcons (zk_iload_n (pc := 0) (j := 1) rfl (by decide +kernel)) (
  zcons (zk_aload_n (pc := 1) (j := 0) rfl (by decide +kernel)) (
  zcons (zk_cvi (pc := 2) 171 rfl (ci := 8) rfl zw_1104 zw_1106 zsel_X8_gone zds_X8_gone (by decide) zw_1107 zw_9 (by decide +kernel)) (
  zcons (zk_iand (pc := 5) (by decide +kernel)) (
  zcons (zk_ifne (pc := 6) (off := 18) (by decide) (by decide +kernel)) (
  zcons (zk_aload_n (pc := 9) (j := 0) rfl (by decide +kernel)) (
  zcons (zk_getr (pc := 10) (ci := 8) (j := 17) rfl zinX8 (by decide) zw_942 (by decide +kernel)) (
  zcons (zk_iload_n (pc := 13) (j := 1) rfl (by decide +kernel)) (
  zcons (zk_laload (pc := 14) (by decide +kernel)) (
  zcons (zk_bipush (pc := 15) (z := 32) (by decide) (by decide +kernel)) (
  zcons (zk_lshr (pc := 17) (by decide +kernel)) (
  zcons (zk_l2i (pc := 18) (by decide +kernel)) (
  zcons (zk_iconst (pc := 19) (z := 1) (by decide) (by decide +kernel)) (
  zcons (zk_isub (pc := 20) (by decide +kernel)) (
  zcons (zk_goto (pc := 21) (off := 4) (by decide) (by decide +kernel)) (
  zcons (zk_iconst (pc := 24) (z := (-1)) (by decide) (by decide +kernel)) (
  zcons (zk_reti (pc := 25) rfl (by decide +kernel)) (znil)))))))))))))))))
def tb_X8_isStraight : List (Nat × ZP) := [(0, zo_i 1 1), (1, zo_is 2 2), (2, zo_i 1 3), (3, zo_is 3 4), (4, zo_il 1 5), (5, zo_csi 175 1 8), (8, zo_is 4 10), (10, zo_il 4 12), (12, zo_is 5 14), (14, zo_il 5 16), (16, zo_al 0 17), (17, zo_getr 8 10 20), (20, zo_i 0 21), (21, zo_iald 22), (22, zo_icge 111 25), (25, zo_il 2 26), (26, zo_ifeq 63 29), (29, zo_il 1 30), (30, zo_il 5 32), (32, zo_csi 144 2 35), (35, zo_ifeq 59 38), (38, zo_il 5 40), (40, zo_al 0 41), (41, zo_getr 8 10 44), (44, zo_i 1 45), (45, zo_iald 46), (46, zo_dv (· / ·) 47), (47, zo_il 4 49), (49, zo_al 0 50), (50, zo_getr 8 10 53), (53, zo_i 1 54), (54, zo_iald 55), (55, zo_dv (· / ·) 56), (56, zo_icne 63 59), (59, zo_i 1 60), (60, zo_goto 64), (63, zo_i 0 64), (64, zo_is 2 65), (65, zo_il 3 66), (66, zo_ifeq 103 69), (69, zo_il 1 70), (70, zo_il 5 72), (72, zo_csi 144 2 75), (75, zo_ifeq 99 78), (78, zo_il 5 80), (80, zo_al 0 81), (81, zo_getr 8 10 84), (84, zo_i 1 85), (85, zo_iald 86), (86, zo_dv zrem 87), (87, zo_il 4 89), (89, zo_al 0 90), (90, zo_getr 8 10 93), (93, zo_i 1 94), (94, zo_iald 95), (95, zo_dv zrem 96), (96, zo_icne 103 99), (99, zo_i 1 100), (100, zo_goto 104), (103, zo_i 0 104), (104, zo_is 3 105), (105, zo_inc 5 1 108), (108, zo_goto 14), (111, zo_il 2 112), (112, zo_ifne 119 115), (115, zo_il 3 116), (116, zo_ifeq 123 119), (119, zo_i 1 120), (120, zo_goto 124), (123, zo_i 0 124), (124, zo_retz)]
def cu_X8_isStraight : List (Nat × List Bool) := [(14, [true, true, true, true, true, true])]
set_option maxRecDepth 100000 in
set_option maxHeartbeats 4000000 in
theorem ok_X8_isStraight : ∀ e ∈ tb_X8_isStraight, ZOK zmt cX8_isStraight RX8 3 e.1 e.2 :=
  zcons (zk_iconst (pc := 0) (z := 1) (by decide) (by decide +kernel)) (
  zcons (zk_istore_n (pc := 1) (j := 2) rfl (by decide +kernel)) (
  zcons (zk_iconst (pc := 2) (z := 1) (by decide) (by decide +kernel)) (
  zcons (zk_istore_n (pc := 3) (j := 3) rfl (by decide +kernel)) (
  zcons (zk_iload_n (pc := 4) (j := 1) rfl (by decide +kernel)) (
  zcons (zk_csi (pc := 5) 175 rfl zw_1112 zw_1113 zds_X8_lowest (by decide) zw_1114 zw_9 (by decide +kernel)) (
  zcons (zk_istore (pc := 8) (by decide +kernel)) (
  zcons (zk_iload (pc := 10) (by decide +kernel)) (
  zcons (zk_istore (pc := 12) (by decide +kernel)) (
  zcons (zk_iload (pc := 14) (by decide +kernel)) (
  zcons (zk_aload_n (pc := 16) (j := 0) rfl (by decide +kernel)) (
  zcons (zk_getr (pc := 17) (ci := 8) (j := 10) rfl zinX8 (by decide) zw_935 (by decide +kernel)) (
  zcons (zk_iconst (pc := 20) (z := 0) (by decide) (by decide +kernel)) (
  zcons (zk_iaload (pc := 21) (by decide +kernel)) (
  zcons (zk_icge (pc := 22) (off := 89) (by decide) (by decide +kernel)) (
  zcons (zk_iload_n (pc := 25) (j := 2) rfl (by decide +kernel)) (
  zcons (zk_ifeq (pc := 26) (off := 37) (by decide) (by decide +kernel)) (
  zcons (zk_iload_n (pc := 29) (j := 1) rfl (by decide +kernel)) (
  zcons (zk_iload (pc := 30) (by decide +kernel)) (
  zcons (zk_csi (pc := 32) 144 rfl zw_1115 zw_1116 zds_X8_has (by decide) zw_1117 zw_9 (by decide +kernel)) (
  zcons (zk_ifeq (pc := 35) (off := 24) (by decide) (by decide +kernel)) (
  zcons (zk_iload (pc := 38) (by decide +kernel)) (
  zcons (zk_aload_n (pc := 40) (j := 0) rfl (by decide +kernel)) (
  zcons (zk_getr (pc := 41) (ci := 8) (j := 10) rfl zinX8 (by decide) zw_935 (by decide +kernel)) (
  zcons (zk_iconst (pc := 44) (z := 1) (by decide) (by decide +kernel)) (
  zcons (zk_iaload (pc := 45) (by decide +kernel)) (
  zcons (zk_idiv (pc := 46) (by decide +kernel)) (
  zcons (zk_iload (pc := 47) (by decide +kernel)) (
  zcons (zk_aload_n (pc := 49) (j := 0) rfl (by decide +kernel)) (
  zcons (zk_getr (pc := 50) (ci := 8) (j := 10) rfl zinX8 (by decide) zw_935 (by decide +kernel)) (
  zcons (zk_iconst (pc := 53) (z := 1) (by decide) (by decide +kernel)) (
  zcons (zk_iaload (pc := 54) (by decide +kernel)) (
  zcons (zk_idiv (pc := 55) (by decide +kernel)) (
  zcons (zk_icne (pc := 56) (off := 7) (by decide) (by decide +kernel)) (
  zcons (zk_iconst (pc := 59) (z := 1) (by decide) (by decide +kernel)) (
  zcons (zk_goto (pc := 60) (off := 4) (by decide) (by decide +kernel)) (
  zcons (zk_iconst (pc := 63) (z := 0) (by decide) (by decide +kernel)) (
  zcons (zk_istore_n (pc := 64) (j := 2) rfl (by decide +kernel)) (
  zcons (zk_iload_n (pc := 65) (j := 3) rfl (by decide +kernel)) (
  zcons (zk_ifeq (pc := 66) (off := 37) (by decide) (by decide +kernel)) (
  zcons (zk_iload_n (pc := 69) (j := 1) rfl (by decide +kernel)) (
  zcons (zk_iload (pc := 70) (by decide +kernel)) (
  zcons (zk_csi (pc := 72) 144 rfl zw_1115 zw_1116 zds_X8_has (by decide) zw_1117 zw_9 (by decide +kernel)) (
  zcons (zk_ifeq (pc := 75) (off := 24) (by decide) (by decide +kernel)) (
  zcons (zk_iload (pc := 78) (by decide +kernel)) (
  zcons (zk_aload_n (pc := 80) (j := 0) rfl (by decide +kernel)) (
  zcons (zk_getr (pc := 81) (ci := 8) (j := 10) rfl zinX8 (by decide) zw_935 (by decide +kernel)) (
  zcons (zk_iconst (pc := 84) (z := 1) (by decide) (by decide +kernel)) (
  zcons (zk_iaload (pc := 85) (by decide +kernel)) (
  zcons (zk_irem (pc := 86) (by decide +kernel)) (
  zcons (zk_iload (pc := 87) (by decide +kernel)) (
  zcons (zk_aload_n (pc := 89) (j := 0) rfl (by decide +kernel)) (
  zcons (zk_getr (pc := 90) (ci := 8) (j := 10) rfl zinX8 (by decide) zw_935 (by decide +kernel)) (
  zcons (zk_iconst (pc := 93) (z := 1) (by decide) (by decide +kernel)) (
  zcons (zk_iaload (pc := 94) (by decide +kernel)) (
  zcons (zk_irem (pc := 95) (by decide +kernel)) (
  zcons (zk_icne (pc := 96) (off := 7) (by decide) (by decide +kernel)) (
  zcons (zk_iconst (pc := 99) (z := 1) (by decide) (by decide +kernel)) (
  zcons (zk_goto (pc := 100) (off := 4) (by decide) (by decide +kernel)) (
  zcons (zk_iconst (pc := 103) (z := 0) (by decide) (by decide +kernel)) (
  zcons (zk_istore_n (pc := 104) (j := 3) rfl (by decide +kernel)) (
  zcons (zk_iinc (pc := 105) (z := 1) (by decide) (by decide +kernel)) (
  zcons (zk_goto (pc := 108) (off := (-94)) (by decide) (by decide +kernel)) (
  zcons (zk_iload_n (pc := 111) (j := 2) rfl (by decide +kernel)) (
  zcons (zk_ifne (pc := 112) (off := 7) (by decide) (by decide +kernel)) (
  zcons (zk_iload_n (pc := 115) (j := 3) rfl (by decide +kernel)) (
  zcons (zk_ifeq (pc := 116) (off := 7) (by decide) (by decide +kernel)) (
  zcons (zk_iconst (pc := 119) (z := 1) (by decide) (by decide +kernel)) (
  zcons (zk_goto (pc := 120) (off := 4) (by decide) (by decide +kernel)) (
  zcons (zk_iconst (pc := 123) (z := 0) (by decide) (by decide +kernel)) (
  zcons (zk_retz (pc := 124) rfl (by decide +kernel)) (znil)))))))))))))))))))))))))))))))))))))))))))))))))))))))))))))))))))))))
def tb_X8_pieces : List (Nat × ZP) := [(0, zo_al 0 1), (1, zo_getr 8 10 4), (4, zo_i 0 5), (5, zo_iald 6), (6, zo_ifne 12 9), (9, zo_i (-1000002) 11), (11, zo_reti), (12, zo_il 2 13), (13, zo_i 0 14), (14, zo_i 2 15), (15, zo_csi 143 3 18), (18, zo_ifeq 31 21), (21, zo_il 1 22), (22, zo_i 1 23), (23, zo_i 10 25), (25, zo_csi 143 3 28), (28, zo_ifne 34 31), (31, zo_i (-1000001) 33), (33, zo_reti), (34, zo_i 0 35), (35, zo_is 3 36), (36, zo_i 1 37), (37, zo_is 4 39), (39, zo_il 4 41), (41, zo_i 1 42), (42, zo_al 0 43), (43, zo_getr 8 10 46), (46, zo_i 0 47), (47, zo_iald 48), (48, zo_bin zshl 49), (49, zo_icge 124 52), (52, zo_il 4 54), (54, zo_al 0 55), (55, zo_cvi 8 171 0 58), (58, zo_bin (· &&& ·) 59), (59, zo_ifne 88 62), (62, zo_il 2 63), (63, zo_ifeq 75 66), (66, zo_il 4 68), (68, zo_csi 145 1 71), (71, zo_il 1 72), (72, zo_icne 88 75), (75, zo_al 0 76), (76, zo_il 4 78), (78, zo_cvi 8 176 1 81), (81, zo_ifeq 88 84), (84, zo_i 1 85), (85, zo_goto 89), (88, zo_i 0 89), (89, zo_is 5 91), (91, zo_il 3 92), (92, zo_il 5 94), (94, zo_ifeq 115 97), (97, zo_il 2 98), (98, zo_i 2 99), (99, zo_iclt 111 102), (102, zo_al 0 103), (103, zo_il 4 105), (105, zo_cvi 8 196 1 108), (108, zo_ifeq 115 111), (111, zo_i 1 112), (112, zo_goto 116), (115, zo_i 0 116), (116, zo_bin (· + ·) 117), (117, zo_is 3 118), (118, zo_inc 4 1 121), (121, zo_goto 39), (124, zo_il 3 125), (125, zo_reti)]
def cu_X8_pieces : List (Nat × List Bool) := [(39, [true, true, true, true, true, false])]
set_option maxRecDepth 100000 in
set_option maxHeartbeats 4000000 in
theorem ok_X8_pieces : ∀ e ∈ tb_X8_pieces, ZOK zmt cX8_pieces RX8 1 e.1 e.2 :=
  zcons (zk_aload_n (pc := 0) (j := 0) rfl (by decide +kernel)) (
  zcons (zk_getr (pc := 1) (ci := 8) (j := 10) rfl zinX8 (by decide) zw_935 (by decide +kernel)) (
  zcons (zk_iconst (pc := 4) (z := 0) (by decide) (by decide +kernel)) (
  zcons (zk_iaload (pc := 5) (by decide +kernel)) (
  zcons (zk_ifne (pc := 6) (off := 6) (by decide) (by decide +kernel)) (
  zcons (zk_ldc (pc := 9) zw_1087 (by decide +kernel)) (
  zcons (zk_reti (pc := 11) rfl (by decide +kernel)) (
  zcons (zk_iload_n (pc := 12) (j := 2) rfl (by decide +kernel)) (
  zcons (zk_iconst (pc := 13) (z := 0) (by decide) (by decide +kernel)) (
  zcons (zk_iconst (pc := 14) (z := 2) (by decide) (by decide +kernel)) (
  zcons (zk_csi (pc := 15) 143 rfl zw_1002 zw_1003 zds_X8_in (by decide) zw_1004 zw_9 (by decide +kernel)) (
  zcons (zk_ifeq (pc := 18) (off := 13) (by decide) (by decide +kernel)) (
  zcons (zk_iload_n (pc := 21) (j := 1) rfl (by decide +kernel)) (
  zcons (zk_iconst (pc := 22) (z := 1) (by decide) (by decide +kernel)) (
  zcons (zk_bipush (pc := 23) (z := 10) (by decide) (by decide +kernel)) (
  zcons (zk_csi (pc := 25) 143 rfl zw_1002 zw_1003 zds_X8_in (by decide) zw_1004 zw_9 (by decide +kernel)) (
  zcons (zk_ifne (pc := 28) (off := 6) (by decide) (by decide +kernel)) (
  zcons (zk_ldc (pc := 31) zw_1005 (by decide +kernel)) (
  zcons (zk_reti (pc := 33) rfl (by decide +kernel)) (
  zcons (zk_iconst (pc := 34) (z := 0) (by decide) (by decide +kernel)) (
  zcons (zk_istore_n (pc := 35) (j := 3) rfl (by decide +kernel)) (
  zcons (zk_iconst (pc := 36) (z := 1) (by decide) (by decide +kernel)) (
  zcons (zk_istore (pc := 37) (by decide +kernel)) (
  zcons (zk_iload (pc := 39) (by decide +kernel)) (
  zcons (zk_iconst (pc := 41) (z := 1) (by decide) (by decide +kernel)) (
  zcons (zk_aload_n (pc := 42) (j := 0) rfl (by decide +kernel)) (
  zcons (zk_getr (pc := 43) (ci := 8) (j := 10) rfl zinX8 (by decide) zw_935 (by decide +kernel)) (
  zcons (zk_iconst (pc := 46) (z := 0) (by decide) (by decide +kernel)) (
  zcons (zk_iaload (pc := 47) (by decide +kernel)) (
  zcons (zk_ishl (pc := 48) (by decide +kernel)) (
  zcons (zk_icge (pc := 49) (off := 75) (by decide) (by decide +kernel)) (
  zcons (zk_iload (pc := 52) (by decide +kernel)) (
  zcons (zk_aload_n (pc := 54) (j := 0) rfl (by decide +kernel)) (
  zcons (zk_cvi (pc := 55) 171 rfl (ci := 8) rfl zw_1104 zw_1106 zsel_X8_gone zds_X8_gone (by decide) zw_1107 zw_9 (by decide +kernel)) (
  zcons (zk_iand (pc := 58) (by decide +kernel)) (
  zcons (zk_ifne (pc := 59) (off := 29) (by decide) (by decide +kernel)) (
  zcons (zk_iload_n (pc := 62) (j := 2) rfl (by decide +kernel)) (
  zcons (zk_ifeq (pc := 63) (off := 12) (by decide) (by decide +kernel)) (
  zcons (zk_iload (pc := 66) (by decide +kernel)) (
  zcons (zk_csi (pc := 68) 145 rfl zw_1126 zw_1127 zds_X8_ones (by decide) zw_1128 zw_9 (by decide +kernel)) (
  zcons (zk_iload_n (pc := 71) (j := 1) rfl (by decide +kernel)) (
  zcons (zk_icne (pc := 72) (off := 16) (by decide) (by decide +kernel)) (
  zcons (zk_aload_n (pc := 75) (j := 0) rfl (by decide +kernel)) (
  zcons (zk_iload (pc := 76) (by decide +kernel)) (
  zcons (zk_cvi (pc := 78) 176 rfl (ci := 8) rfl zw_1108 zw_1110 zsel_X8_hangs zds_X8_hangs (by decide) zw_1111 zw_9 (by decide +kernel)) (
  zcons (zk_ifeq (pc := 81) (off := 7) (by decide) (by decide +kernel)) (
  zcons (zk_iconst (pc := 84) (z := 1) (by decide) (by decide +kernel)) (
  zcons (zk_goto (pc := 85) (off := 4) (by decide) (by decide +kernel)) (
  zcons (zk_iconst (pc := 88) (z := 0) (by decide) (by decide +kernel)) (
  zcons (zk_istore (pc := 89) (by decide +kernel)) (
  zcons (zk_iload_n (pc := 91) (j := 3) rfl (by decide +kernel)) (
  zcons (zk_iload (pc := 92) (by decide +kernel)) (
  zcons (zk_ifeq (pc := 94) (off := 21) (by decide) (by decide +kernel)) (
  zcons (zk_iload_n (pc := 97) (j := 2) rfl (by decide +kernel)) (
  zcons (zk_iconst (pc := 98) (z := 2) (by decide) (by decide +kernel)) (
  zcons (zk_iclt (pc := 99) (off := 12) (by decide) (by decide +kernel)) (
  zcons (zk_aload_n (pc := 102) (j := 0) rfl (by decide +kernel)) (
  zcons (zk_iload (pc := 103) (by decide +kernel)) (
  zcons (zk_cvi (pc := 105) 196 rfl (ci := 8) rfl zw_1202 zw_1204 zsel_X8_isStraight zds_X8_isStraight (by decide) zw_1205 zw_9 (by decide +kernel)) (
  zcons (zk_ifeq (pc := 108) (off := 7) (by decide) (by decide +kernel)) (
  zcons (zk_iconst (pc := 111) (z := 1) (by decide) (by decide +kernel)) (
  zcons (zk_goto (pc := 112) (off := 4) (by decide) (by decide +kernel)) (
  zcons (zk_iconst (pc := 115) (z := 0) (by decide) (by decide +kernel)) (
  zcons (zk_iadd (pc := 116) (by decide +kernel)) (
  zcons (zk_istore_n (pc := 117) (j := 3) rfl (by decide +kernel)) (
  zcons (zk_iinc (pc := 118) (z := 1) (by decide) (by decide +kernel)) (
  zcons (zk_goto (pc := 121) (off := (-82)) (by decide) (by decide +kernel)) (
  zcons (zk_iload_n (pc := 124) (j := 3) rfl (by decide +kernel)) (
  zcons (zk_reti (pc := 125) rfl (by decide +kernel)) (znil)))))))))))))))))))))))))))))))))))))))))))))))))))))))))))))))))))))
def tb_X8_sums : List (Nat × ZP) := [(0, zo_al 0 1), (1, zo_getr 8 10 4), (4, zo_i 0 5), (5, zo_iald 6), (6, zo_ifne 12 9), (9, zo_i (-1000002) 11), (11, zo_reti), (12, zo_il 1 13), (13, zo_i 0 14), (14, zo_i 2 15), (15, zo_csi 143 3 18), (18, zo_ifne 24 21), (21, zo_i (-1000001) 23), (23, zo_reti), (24, zo_al 0 25), (25, zo_cvv 8 194 0 28), (28, zo_i 0 29), (29, zo_is 2 30), (30, zo_l 0 31), (31, zo_ls 3 32), (32, zo_l 0 33), (33, zo_ls 5 35), (35, zo_i 1 36), (36, zo_is 7 38), (38, zo_il 7 40), (40, zo_i 1 41), (41, zo_al 0 42), (42, zo_getr 8 10 45), (45, zo_i 0 46), (46, zo_iald 47), (47, zo_bin zshl 48), (48, zo_icge 128 51), (51, zo_al 0 52), (52, zo_il 7 54), (54, zo_cvi 8 195 1 57), (57, zo_is 8 59), (59, zo_il 8 61), (61, zo_il 2 62), (62, zo_icle 70 65), (65, zo_il 8 67), (67, zo_goto 71), (70, zo_il 2 71), (71, zo_is 2 72), (72, zo_ll 3 73), (73, zo_il 8 75), (75, zo_i 0 76), (76, zo_i 49 78), (78, zo_csi 143 3 81), (81, zo_ifeq 91 84), (84, zo_l 1 85), (85, zo_il 8 87), (87, zo_lsh zlshl 88), (88, zo_goto 92), (91, zo_l 0 92), (92, zo_lbin (· ||| ·) 93), (93, zo_ls 3 94), (94, zo_ll 5 96), (96, zo_il 8 98), (98, zo_i 50 100), (100, zo_i 99 102), (102, zo_csi 143 3 105), (105, zo_ifeq 118 108), (108, zo_l 1 109), (109, zo_il 8 111), (111, zo_i 50 113), (113, zo_bin (· - ·) 114), (114, zo_lsh zlshl 115), (115, zo_goto 119), (118, zo_l 0 119), (119, zo_lbin (· ||| ·) 120), (120, zo_ls 5 122), (122, zo_inc 7 1 125), (125, zo_goto 38), (128, zo_i 0 129), (129, zo_is 7 131), (131, zo_i (-1000000) 133), (133, zo_is 8 135), (135, zo_i 99 137), (137, zo_is 9 139), (139, zo_il 9 141), (141, zo_iflt 215 144), (144, zo_il 9 146), (146, zo_i 50 148), (148, zo_icge 158 151), (151, zo_ll 3 152), (152, zo_il 9 154), (154, zo_lsh zlshr 155), (155, zo_goto 166), (158, zo_ll 5 160), (160, zo_il 9 162), (162, zo_i 50 164), (164, zo_bin (· - ·) 165), (165, zo_lsh zlshr 166), (166, zo_l 1 167), (167, zo_lbin (· &&& ·) 168), (168, zo_l 1 169), (169, zo_lcmp 170), (170, zo_ifne 177 173), (173, zo_i 1 174), (174, zo_goto 178), (177, zo_i 0 178), (178, zo_is 10 180), (180, zo_il 7 182), (182, zo_il 10 184), (184, zo_ifeq 191 187), (187, zo_i 1 188), (188, zo_goto 192), (191, zo_i 0 192), (192, zo_bin (· + ·) 193), (193, zo_is 7 195), (195, zo_il 10 197), (197, zo_ifeq 205 200), (200, zo_il 8 202), (202, zo_goto 207), (205, zo_il 9 207), (207, zo_is 8 209), (209, zo_inc 9 (-1) 212), (212, zo_goto 139), (215, zo_il 1 216), (216, zo_ifne 224 219), (219, zo_il 7 221), (221, zo_goto 235), (224, zo_il 1 225), (225, zo_i 1 226), (226, zo_icne 234 229), (229, zo_il 8 231), (231, zo_goto 235), (234, zo_il 2 235), (235, zo_reti)]
def cu_X8_sums : List (Nat × List Bool) := [(38, [true, true, true, true, false, true, false, true, false, false, false]), (139, [false, true, true, true, false, true, false, true, true, true, false])]
set_option maxRecDepth 100000 in
set_option maxHeartbeats 4000000 in
theorem ok_X8_sums : ∀ e ∈ tb_X8_sums, ZOK zmt cX8_sums RX8 1 e.1 e.2 :=
  zcons (zk_aload_n (pc := 0) (j := 0) rfl (by decide +kernel)) (
  zcons (zk_getr (pc := 1) (ci := 8) (j := 10) rfl zinX8 (by decide) zw_935 (by decide +kernel)) (
  zcons (zk_iconst (pc := 4) (z := 0) (by decide) (by decide +kernel)) (
  zcons (zk_iaload (pc := 5) (by decide +kernel)) (
  zcons (zk_ifne (pc := 6) (off := 6) (by decide) (by decide +kernel)) (
  zcons (zk_ldc (pc := 9) zw_1087 (by decide +kernel)) (
  zcons (zk_reti (pc := 11) rfl (by decide +kernel)) (
  zcons (zk_iload_n (pc := 12) (j := 1) rfl (by decide +kernel)) (
  zcons (zk_iconst (pc := 13) (z := 0) (by decide) (by decide +kernel)) (
  zcons (zk_iconst (pc := 14) (z := 2) (by decide) (by decide +kernel)) (
  zcons (zk_csi (pc := 15) 143 rfl zw_1002 zw_1003 zds_X8_in (by decide) zw_1004 zw_9 (by decide +kernel)) (
  zcons (zk_ifne (pc := 18) (off := 6) (by decide) (by decide +kernel)) (
  zcons (zk_ldc (pc := 21) zw_1005 (by decide +kernel)) (
  zcons (zk_reti (pc := 23) rfl (by decide +kernel)) (
  zcons (zk_aload_n (pc := 24) (j := 0) rfl (by decide +kernel)) (
  zcons (zk_cvv (pc := 25) 194 rfl (ci := 8) rfl zw_1210 zw_1212 zsel_X8_surveys zds_X8_surveys (by decide) zw_1213 zw_9 (by decide +kernel)) (
  zcons (zk_iconst (pc := 28) (z := 0) (by decide) (by decide +kernel)) (
  zcons (zk_istore_n (pc := 29) (j := 2) rfl (by decide +kernel)) (
  zcons (zk_lconst (pc := 30) (z := 0) (by decide) (by decide +kernel)) (
  zcons (zk_lstore_n (pc := 31) (j := 3) rfl (by decide +kernel)) (
  zcons (zk_lconst (pc := 32) (z := 0) (by decide) (by decide +kernel)) (
  zcons (zk_lstore (pc := 33) (by decide +kernel)) (
  zcons (zk_iconst (pc := 35) (z := 1) (by decide) (by decide +kernel)) (
  zcons (zk_istore (pc := 36) (by decide +kernel)) (
  zcons (zk_iload (pc := 38) (by decide +kernel)) (
  zcons (zk_iconst (pc := 40) (z := 1) (by decide) (by decide +kernel)) (
  zcons (zk_aload_n (pc := 41) (j := 0) rfl (by decide +kernel)) (
  zcons (zk_getr (pc := 42) (ci := 8) (j := 10) rfl zinX8 (by decide) zw_935 (by decide +kernel)) (
  zcons (zk_iconst (pc := 45) (z := 0) (by decide) (by decide +kernel)) (
  zcons (zk_iaload (pc := 46) (by decide +kernel)) (
  zcons (zk_ishl (pc := 47) (by decide +kernel)) (
  zcons (zk_icge (pc := 48) (off := 80) (by decide) (by decide +kernel)) (
  zcons (zk_aload_n (pc := 51) (j := 0) rfl (by decide +kernel)) (
  zcons (zk_iload (pc := 52) (by decide +kernel)) (
  zcons (zk_cvi (pc := 54) 195 rfl (ci := 8) rfl zw_1214 zw_1216 zsel_X8_paysBy zds_X8_paysBy (by decide) zw_1217 zw_9 (by decide +kernel)) (
  zcons (zk_istore (pc := 57) (by decide +kernel)) (
  zcons (zk_iload (pc := 59) (by decide +kernel)) (
  zcons (zk_iload_n (pc := 61) (j := 2) rfl (by decide +kernel)) (
  zcons (zk_icle (pc := 62) (off := 8) (by decide) (by decide +kernel)) (
  zcons (zk_iload (pc := 65) (by decide +kernel)) (
  zcons (zk_goto (pc := 67) (off := 4) (by decide) (by decide +kernel)) (
  zcons (zk_iload_n (pc := 70) (j := 2) rfl (by decide +kernel)) (
  zcons (zk_istore_n (pc := 71) (j := 2) rfl (by decide +kernel)) (
  zcons (zk_lload_n (pc := 72) (j := 3) rfl (by decide +kernel)) (
  zcons (zk_iload (pc := 73) (by decide +kernel)) (
  zcons (zk_iconst (pc := 75) (z := 0) (by decide) (by decide +kernel)) (
  zcons (zk_bipush (pc := 76) (z := 49) (by decide) (by decide +kernel)) (
  zcons (zk_csi (pc := 78) 143 rfl zw_1002 zw_1003 zds_X8_in (by decide) zw_1004 zw_9 (by decide +kernel)) (
  zcons (zk_ifeq (pc := 81) (off := 10) (by decide) (by decide +kernel)) (
  zcons (zk_lconst (pc := 84) (z := 1) (by decide) (by decide +kernel)) (
  zcons (zk_iload (pc := 85) (by decide +kernel)) (
  zcons (zk_lshl (pc := 87) (by decide +kernel)) (
  zcons (zk_goto (pc := 88) (off := 4) (by decide) (by decide +kernel)) (
  zcons (zk_lconst (pc := 91) (z := 0) (by decide) (by decide +kernel)) (
  zcons (zk_lor (pc := 92) (by decide +kernel)) (
  zcons (zk_lstore_n (pc := 93) (j := 3) rfl (by decide +kernel)) (
  zcons (zk_lload (pc := 94) (by decide +kernel)) (
  zcons (zk_iload (pc := 96) (by decide +kernel)) (
  zcons (zk_bipush (pc := 98) (z := 50) (by decide) (by decide +kernel)) (
  zcons (zk_bipush (pc := 100) (z := 99) (by decide) (by decide +kernel)) (
  zcons (zk_csi (pc := 102) 143 rfl zw_1002 zw_1003 zds_X8_in (by decide) zw_1004 zw_9 (by decide +kernel)) (
  zcons (zk_ifeq (pc := 105) (off := 13) (by decide) (by decide +kernel)) (
  zcons (zk_lconst (pc := 108) (z := 1) (by decide) (by decide +kernel)) (
  zcons (zk_iload (pc := 109) (by decide +kernel)) (
  zcons (zk_bipush (pc := 111) (z := 50) (by decide) (by decide +kernel)) (
  zcons (zk_isub (pc := 113) (by decide +kernel)) (
  zcons (zk_lshl (pc := 114) (by decide +kernel)) (
  zcons (zk_goto (pc := 115) (off := 4) (by decide) (by decide +kernel)) (
  zcons (zk_lconst (pc := 118) (z := 0) (by decide) (by decide +kernel)) (
  zcons (zk_lor (pc := 119) (by decide +kernel)) (
  zcons (zk_lstore (pc := 120) (by decide +kernel)) (
  zcons (zk_iinc (pc := 122) (z := 1) (by decide) (by decide +kernel)) (
  zcons (zk_goto (pc := 125) (off := (-87)) (by decide) (by decide +kernel)) (
  zcons (zk_iconst (pc := 128) (z := 0) (by decide) (by decide +kernel)) (
  zcons (zk_istore (pc := 129) (by decide +kernel)) (
  zcons (zk_ldc (pc := 131) zw_1169 (by decide +kernel)) (
  zcons (zk_istore (pc := 133) (by decide +kernel)) (
  zcons (zk_bipush (pc := 135) (z := 99) (by decide) (by decide +kernel)) (
  zcons (zk_istore (pc := 137) (by decide +kernel)) (
  zcons (zk_iload (pc := 139) (by decide +kernel)) (
  zcons (zk_iflt (pc := 141) (off := 74) (by decide) (by decide +kernel)) (
  zcons (zk_iload (pc := 144) (by decide +kernel)) (
  zcons (zk_bipush (pc := 146) (z := 50) (by decide) (by decide +kernel)) (
  zcons (zk_icge (pc := 148) (off := 10) (by decide) (by decide +kernel)) (
  zcons (zk_lload_n (pc := 151) (j := 3) rfl (by decide +kernel)) (
  zcons (zk_iload (pc := 152) (by decide +kernel)) (
  zcons (zk_lshr (pc := 154) (by decide +kernel)) (
  zcons (zk_goto (pc := 155) (off := 11) (by decide) (by decide +kernel)) (
  zcons (zk_lload (pc := 158) (by decide +kernel)) (
  zcons (zk_iload (pc := 160) (by decide +kernel)) (
  zcons (zk_bipush (pc := 162) (z := 50) (by decide) (by decide +kernel)) (
  zcons (zk_isub (pc := 164) (by decide +kernel)) (
  zcons (zk_lshr (pc := 165) (by decide +kernel)) (
  zcons (zk_lconst (pc := 166) (z := 1) (by decide) (by decide +kernel)) (
  zcons (zk_land (pc := 167) (by decide +kernel)) (
  zcons (zk_lconst (pc := 168) (z := 1) (by decide) (by decide +kernel)) (
  zcons (zk_lcmp (pc := 169) (by decide +kernel)) (
  zcons (zk_ifne (pc := 170) (off := 7) (by decide) (by decide +kernel)) (
  zcons (zk_iconst (pc := 173) (z := 1) (by decide) (by decide +kernel)) (
  zcons (zk_goto (pc := 174) (off := 4) (by decide) (by decide +kernel)) (
  zcons (zk_iconst (pc := 177) (z := 0) (by decide) (by decide +kernel)) (
  zcons (zk_istore (pc := 178) (by decide +kernel)) (
  zcons (zk_iload (pc := 180) (by decide +kernel)) (
  zcons (zk_iload (pc := 182) (by decide +kernel)) (
  zcons (zk_ifeq (pc := 184) (off := 7) (by decide) (by decide +kernel)) (
  zcons (zk_iconst (pc := 187) (z := 1) (by decide) (by decide +kernel)) (
  zcons (zk_goto (pc := 188) (off := 4) (by decide) (by decide +kernel)) (
  zcons (zk_iconst (pc := 191) (z := 0) (by decide) (by decide +kernel)) (
  zcons (zk_iadd (pc := 192) (by decide +kernel)) (
  zcons (zk_istore (pc := 193) (by decide +kernel)) (
  zcons (zk_iload (pc := 195) (by decide +kernel)) (
  zcons (zk_ifeq (pc := 197) (off := 8) (by decide) (by decide +kernel)) (
  zcons (zk_iload (pc := 200) (by decide +kernel)) (
  zcons (zk_goto (pc := 202) (off := 5) (by decide) (by decide +kernel)) (
  zcons (zk_iload (pc := 205) (by decide +kernel)) (
  zcons (zk_istore (pc := 207) (by decide +kernel)) (
  zcons (zk_iinc (pc := 209) (z := (-1)) (by decide) (by decide +kernel)) (
  zcons (zk_goto (pc := 212) (off := (-73)) (by decide) (by decide +kernel)) (
  zcons (zk_iload_n (pc := 215) (j := 1) rfl (by decide +kernel)) (
  zcons (zk_ifne (pc := 216) (off := 8) (by decide) (by decide +kernel)) (
  zcons (zk_iload (pc := 219) (by decide +kernel)) (
  zcons (zk_goto (pc := 221) (off := 14) (by decide) (by decide +kernel)) (
  zcons (zk_iload_n (pc := 224) (j := 1) rfl (by decide +kernel)) (
  zcons (zk_iconst (pc := 225) (z := 1) (by decide) (by decide +kernel)) (
  zcons (zk_icne (pc := 226) (off := 8) (by decide) (by decide +kernel)) (
  zcons (zk_iload (pc := 229) (by decide +kernel)) (
  zcons (zk_goto (pc := 231) (off := 4) (by decide) (by decide +kernel)) (
  zcons (zk_iload_n (pc := 234) (j := 2) rfl (by decide +kernel)) (
  zcons (zk_reti (pc := 235) rfl (by decide +kernel)) (znil)))))))))))))))))))))))))))))))))))))))))))))))))))))))))))))))))))))))))))))))))))))))))))))))))))))))))))))))))))))))))))))))))

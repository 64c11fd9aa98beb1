def tb_X8_fitsFor : List (Nat × ZP) := [(0, zo_al 0 1), (1, zo_il 2 2), (2, zo_cvi 8 195 1 5), (5, zo_al 0 6), (6, zo_getr 8 10 9), (9, zo_i 13 11), (11, zo_il 1 12), (12, zo_bin (· + ·) 13), (13, zo_iald 14), (14, zo_al 0 15), (15, zo_getr 8 10 18), (18, zo_i 18 20), (20, zo_il 1 21), (21, zo_bin (· + ·) 22), (22, zo_iald 23), (23, zo_csi 143 3 26), (26, zo_retz)]
def cu_X8_fitsFor : List (Nat × List Bool) := []
set_option maxRecDepth 100000 in
set_option maxHeartbeats 4000000 in
theorem ok_X8_fitsFor : ∀ e ∈ tb_X8_fitsFor, ZOK zmt cX8_fitsFor RX8 3 e.1 e.2 :=
  zcons (zk_aload_n (pc := 0) (j := 0) rfl (by decide +kernel)) (
  zcons (zk_iload_n (pc := 1) (j := 2) rfl (by decide +kernel)) (
  zcons (zk_cvi (pc := 2) 195 rfl (ci := 8) rfl zw_1214 zw_1216 zsel_X8_paysBy zds_X8_paysBy (by decide) zw_1217 zw_9 (by decide +kernel)) (
  zcons (zk_aload_n (pc := 5) (j := 0) rfl (by decide +kernel)) (
  zcons (zk_getr (pc := 6) (ci := 8) (j := 10) rfl zinX8 (by decide) zw_935 (by decide +kernel)) (
  zcons (zk_bipush (pc := 9) (z := 13) (by decide) (by decide +kernel)) (
  zcons (zk_iload_n (pc := 11) (j := 1) rfl (by decide +kernel)) (
  zcons (zk_iadd (pc := 12) (by decide +kernel)) (
  zcons (zk_iaload (pc := 13) (by decide +kernel)) (
  zcons (zk_aload_n (pc := 14) (j := 0) rfl (by decide +kernel)) (
  zcons (zk_getr (pc := 15) (ci := 8) (j := 10) rfl zinX8 (by decide) zw_935 (by decide +kernel)) (
  zcons (zk_bipush (pc := 18) (z := 18) (by decide) (by decide +kernel)) (
  zcons (zk_iload_n (pc := 20) (j := 1) rfl (by decide +kernel)) (
  zcons (zk_iadd (pc := 21) (by decide +kernel)) (
  zcons (zk_iaload (pc := 22) (by decide +kernel)) (
  zcons (zk_csi (pc := 23) 143 rfl zw_1002 zw_1003 zds_X8_in (by decide) zw_1004 zw_9 (by decide +kernel)) (
  zcons (zk_retz (pc := 26) rfl (by decide +kernel)) (znil)))))))))))))))))
def tb_X8_bestFor : List (Nat × ZP) := [(0, zo_i 0 1), (1, zo_is 2 2), (2, zo_i 1 3), (3, zo_is 3 4), (4, zo_il 3 5), (5, zo_i 1 6), (6, zo_al 0 7), (7, zo_getr 8 10 10), (10, zo_i 0 11), (11, zo_iald 12), (12, zo_bin zshl 13), (13, zo_icge 79 16), (16, zo_al 0 17), (17, zo_il 1 18), (18, zo_il 3 19), (19, zo_cvi 8 199 2 22), (22, zo_ifeq 73 25), (25, zo_il 2 26), (26, zo_ifne 33 29), (29, zo_i (-1) 30), (30, zo_goto 44), (33, zo_al 0 34), (34, zo_il 3 35), (35, zo_cvi 8 179 1 38), (38, zo_al 0 39), (39, zo_il 2 40), (40, zo_cvi 8 179 1 43), (43, zo_bin (· - ·) 44), (44, zo_is 4 46), (46, zo_il 4 48), (48, zo_iflt 67 51), (51, zo_il 4 53), (53, zo_ifne 71 56), (56, zo_il 3 57), (57, zo_csi 145 1 60), (60, zo_il 2 61), (61, zo_csi 145 1 64), (64, zo_icge 71 67), (67, zo_il 3 68), (68, zo_goto 72), (71, zo_il 2 72), (72, zo_is 2 73), (73, zo_inc 3 1 76), (76, zo_goto 4), (79, zo_il 2 80), (80, zo_reti)]
def cu_X8_bestFor : List (Nat × List Bool) := [(4, [true, true, true, true, false])]
set_option maxRecDepth 100000 in
set_option maxHeartbeats 4000000 in
theorem ok_X8_bestFor : ∀ e ∈ tb_X8_bestFor, ZOK zmt cX8_bestFor RX8 1 e.1 e.2 :=
  zcons (zk_iconst (pc := 0) (z := 0) (by decide) (by decide +kernel)) (
  zcons (zk_istore_n (pc := 1) (j := 2) rfl (by decide +kernel)) (
  zcons (zk_iconst (pc := 2) (z := 1) (by decide) (by decide +kernel)) (
  zcons (zk_istore_n (pc := 3) (j := 3) rfl (by decide +kernel)) (
  zcons (zk_iload_n (pc := 4) (j := 3) rfl (by decide +kernel)) (
  zcons (zk_iconst (pc := 5) (z := 1) (by decide) (by decide +kernel)) (
  zcons (zk_aload_n (pc := 6) (j := 0) rfl (by decide +kernel)) (
  zcons (zk_getr (pc := 7) (ci := 8) (j := 10) rfl zinX8 (by decide) zw_935 (by decide +kernel)) (
  zcons (zk_iconst (pc := 10) (z := 0) (by decide) (by decide +kernel)) (
  zcons (zk_iaload (pc := 11) (by decide +kernel)) (
  zcons (zk_ishl (pc := 12) (by decide +kernel)) (
  zcons (zk_icge (pc := 13) (off := 66) (by decide) (by decide +kernel)) (
  zcons (zk_aload_n (pc := 16) (j := 0) rfl (by decide +kernel)) (
  zcons (zk_iload_n (pc := 17) (j := 1) rfl (by decide +kernel)) (
  zcons (zk_iload_n (pc := 18) (j := 3) rfl (by decide +kernel)) (
  zcons (zk_cvi (pc := 19) 199 rfl (ci := 8) rfl zw_1226 zw_1228 zsel_X8_fitsFor zds_X8_fitsFor (by decide) zw_1229 zw_9 (by decide +kernel)) (
  zcons (zk_ifeq (pc := 22) (off := 51) (by decide) (by decide +kernel)) (
  zcons (zk_iload_n (pc := 25) (j := 2) rfl (by decide +kernel)) (
  zcons (zk_ifne (pc := 26) (off := 7) (by decide) (by decide +kernel)) (
  zcons (zk_iconst (pc := 29) (z := (-1)) (by decide) (by decide +kernel)) (
  zcons (zk_goto (pc := 30) (off := 14) (by decide) (by decide +kernel)) (
  zcons (zk_aload_n (pc := 33) (j := 0) rfl (by decide +kernel)) (
  zcons (zk_iload_n (pc := 34) (j := 3) rfl (by decide +kernel)) (
  zcons (zk_cvi (pc := 35) 179 rfl (ci := 8) rfl zw_1133 zw_1135 zsel_X8_tears zds_X8_tears (by decide) zw_1136 zw_9 (by decide +kernel)) (
  zcons (zk_aload_n (pc := 38) (j := 0) rfl (by decide +kernel)) (
  zcons (zk_iload_n (pc := 39) (j := 2) rfl (by decide +kernel)) (
  zcons (zk_cvi (pc := 40) 179 rfl (ci := 8) rfl zw_1133 zw_1135 zsel_X8_tears zds_X8_tears (by decide) zw_1136 zw_9 (by decide +kernel)) (
  zcons (zk_isub (pc := 43) (by decide +kernel)) (
  zcons (zk_istore (pc := 44) (by decide +kernel)) (
  zcons (zk_iload (pc := 46) (by decide +kernel)) (
  zcons (zk_iflt (pc := 48) (off := 19) (by decide) (by decide +kernel)) (
  zcons (zk_iload (pc := 51) (by decide +kernel)) (
  zcons (zk_ifne (pc := 53) (off := 18) (by decide) (by decide +kernel)) (
  zcons (zk_iload_n (pc := 56) (j := 3) rfl (by decide +kernel)) (
  zcons (zk_csi (pc := 57) 145 rfl zw_1126 zw_1127 zds_X8_ones (by decide) zw_1128 zw_9 (by decide +kernel)) (
  zcons (zk_iload_n (pc := 60) (j := 2) rfl (by decide +kernel)) (
  zcons (zk_csi (pc := 61) 145 rfl zw_1126 zw_1127 zds_X8_ones (by decide) zw_1128 zw_9 (by decide +kernel)) (
  zcons (zk_icge (pc := 64) (off := 7) (by decide) (by decide +kernel)) (
  zcons (zk_iload_n (pc := 67) (j := 3) rfl (by decide +kernel)) (
  zcons (zk_goto (pc := 68) (off := 4) (by decide) (by decide +kernel)) (
  zcons (zk_iload_n (pc := 71) (j := 2) rfl (by decide +kernel)) (
  zcons (zk_istore_n (pc := 72) (j := 2) rfl (by decide +kernel)) (
  zcons (zk_iinc (pc := 73) (z := 1) (by decide) (by decide +kernel)) (
  zcons (zk_goto (pc := 76) (off := (-72)) (by decide) (by decide +kernel)) (
  zcons (zk_iload_n (pc := 79) (j := 2) rfl (by decide +kernel)) (
  zcons (zk_reti (pc := 80) rfl (by decide +kernel)) (znil))))))))))))))))))))))))))))))))))))))))))))))
def tb_X8_best : List (Nat × ZP) := [(0, zo_al 0 1), (1, zo_il 1 2), (2, zo_cvi 8 170 1 5), (5, zo_ifeq 17 8), (8, zo_il 2 9), (9, zo_i 0 10), (10, zo_i 1 11), (11, zo_csi 143 3 14), (14, zo_ifne 20 17), (17, zo_i (-1000001) 19), (19, zo_reti), (20, zo_al 0 21), (21, zo_getr 8 10 24), (24, zo_i 26 26), (26, zo_il 1 27), (27, zo_bin (· + ·) 28), (28, zo_iald 29), (29, zo_ifle 35 32), (32, zo_i (-1000002) 34), (34, zo_reti), (35, zo_al 0 36), (36, zo_cvv 8 194 0 39), (39, zo_al 0 40), (40, zo_il 1 41), (41, zo_cvi 8 200 1 44), (44, zo_is 3 45), (45, zo_il 3 46), (46, zo_ifne 54 49), (49, zo_i (-1000000) 51), (51, zo_goto 67), (54, zo_il 2 55), (55, zo_ifne 62 58), (58, zo_il 3 59), (59, zo_goto 67), (62, zo_al 0 63), (63, zo_il 3 64), (64, zo_cvi 8 179 1 67), (67, zo_reti)]
def cu_X8_best : List (Nat × List Bool) := []
set_option maxRecDepth 100000 in
set_option maxHeartbeats 4000000 in
theorem ok_X8_best : ∀ e ∈ tb_X8_best, ZOK zmt cX8_best RX8 1 e.1 e.2 :=
  zcons (zk_aload_n (pc := 0) (j := 0) rfl (by decide +kernel)) (
  zcons (zk_iload_n (pc := 1) (j := 1) rfl (by decide +kernel)) (
  zcons (zk_cvi (pc := 2) 170 rfl (ci := 8) rfl zw_1092 zw_1094 zsel_X8_isCustomer zds_X8_isCustomer (by decide) zw_1095 zw_9 (by decide +kernel)) (
  zcons (zk_ifeq (pc := 5) (off := 12) (by decide) (by decide +kernel)) (
  zcons (zk_iload_n (pc := 8) (j := 2) rfl (by decide +kernel)) (
  zcons (zk_iconst (pc := 9) (z := 0) (by decide) (by decide +kernel)) (
  zcons (zk_iconst (pc := 10) (z := 1) (by decide) (by decide +kernel)) (
  zcons (zk_csi (pc := 11) 143 rfl zw_1002 zw_1003 zds_X8_in (by decide) zw_1004 zw_9 (by decide +kernel)) (
  zcons (zk_ifne (pc := 14) (off := 6) (by decide) (by decide +kernel)) (
  zcons (zk_ldc (pc := 17) zw_1005 (by decide +kernel)) (
  zcons (zk_reti (pc := 19) rfl (by decide +kernel)) (
  zcons (zk_aload_n (pc := 20) (j := 0) rfl (by decide +kernel)) (
  zcons (zk_getr (pc := 21) (ci := 8) (j := 10) rfl zinX8 (by decide) zw_935 (by decide +kernel)) (
  zcons (zk_bipush (pc := 24) (z := 26) (by decide) (by decide +kernel)) (
  zcons (zk_iload_n (pc := 26) (j := 1) rfl (by decide +kernel)) (
  zcons (zk_iadd (pc := 27) (by decide +kernel)) (
  zcons (zk_iaload (pc := 28) (by decide +kernel)) (
  zcons (zk_ifle (pc := 29) (off := 6) (by decide) (by decide +kernel)) (
  zcons (zk_ldc (pc := 32) zw_1087 (by decide +kernel)) (
  zcons (zk_reti (pc := 34) rfl (by decide +kernel)) (
  zcons (zk_aload_n (pc := 35) (j := 0) rfl (by decide +kernel)) (
  zcons (zk_cvv (pc := 36) 194 rfl (ci := 8) rfl zw_1210 zw_1212 zsel_X8_surveys zds_X8_surveys (by decide) zw_1213 zw_9 (by decide +kernel)) (
  zcons (zk_aload_n (pc := 39) (j := 0) rfl (by decide +kernel)) (
  zcons (zk_iload_n (pc := 40) (j := 1) rfl (by decide +kernel)) (
  zcons (zk_cvi (pc := 41) 200 rfl (ci := 8) rfl zw_1222 zw_1224 zsel_X8_bestFor zds_X8_bestFor (by decide) zw_1225 zw_9 (by decide +kernel)) (
  zcons (zk_istore_n (pc := 44) (j := 3) rfl (by decide +kernel)) (
  zcons (zk_iload_n (pc := 45) (j := 3) rfl (by decide +kernel)) (
  zcons (zk_ifne (pc := 46) (off := 8) (by decide) (by decide +kernel)) (
  zcons (zk_ldc (pc := 49) zw_1169 (by decide +kernel)) (
  zcons (zk_goto (pc := 51) (off := 16) (by decide) (by decide +kernel)) (
  zcons (zk_iload_n (pc := 54) (j := 2) rfl (by decide +kernel)) (
  zcons (zk_ifne (pc := 55) (off := 7) (by decide) (by decide +kernel)) (
  zcons (zk_iload_n (pc := 58) (j := 3) rfl (by decide +kernel)) (
  zcons (zk_goto (pc := 59) (off := 8) (by decide) (by decide +kernel)) (
  zcons (zk_aload_n (pc := 62) (j := 0) rfl (by decide +kernel)) (
  zcons (zk_iload_n (pc := 63) (j := 3) rfl (by decide +kernel)) (
  zcons (zk_cvi (pc := 64) 179 rfl (ci := 8) rfl zw_1133 zw_1135 zsel_X8_tears zds_X8_tears (by decide) zw_1136 zw_9 (by decide +kernel)) (
  zcons (zk_reti (pc := 67) rfl (by decide +kernel)) (znil))))))))))))))))))))))))))))))))))))))
def tb_X8_ways : List (Nat × ZP) := [(0, zo_al 0 1), (1, zo_il 1 2), (2, zo_cvi 8 170 1 5), (5, zo_ifne 11 8), (8, zo_i (-1000001) 10), (10, zo_reti), (11, zo_al 0 12), (12, zo_getr 8 10 15), (15, zo_i 26 17), (17, zo_il 1 18), (18, zo_bin (· + ·) 19), (19, zo_iald 20), (20, zo_ifle 26 23), (23, zo_i (-1000002) 25), (25, zo_reti), (26, zo_al 0 27), (27, zo_cvv 8 194 0 30), (30, zo_i 0 31), (31, zo_is 2 32), (32, zo_i 1 33), (33, zo_is 3 34), (34, zo_il 3 35), (35, zo_i 1 36), (36, zo_al 0 37), (37, zo_getr 8 10 40), (40, zo_i 0 41), (41, zo_iald 42), (42, zo_bin zshl 43), (43, zo_icge 69 46), (46, zo_il 2 47), (47, zo_al 0 48), (48, zo_il 1 49), (49, zo_il 3 50), (50, zo_cvi 8 199 2 53), (53, zo_ifeq 60 56), (56, zo_i 1 57), (57, zo_goto 61), (60, zo_i 0 61), (61, zo_bin (· + ·) 62), (62, zo_is 2 63), (63, zo_inc 3 1 66), (66, zo_goto 34), (69, zo_il 2 70), (70, zo_reti)]
def cu_X8_ways : List (Nat × List Bool) := [(34, [true, true, true, true])]
set_option maxRecDepth 100000 in
set_option maxHeartbeats 4000000 in
theorem ok_X8_ways : ∀ e ∈ tb_X8_ways, ZOK zmt cX8_ways RX8 1 e.1 e.2 :=
  zcons (zk_aload_n (pc := 0) (j := 0) rfl (by decide +kernel)) (
  zcons (zk_iload_n (pc := 1) (j := 1) rfl (by decide +kernel)) (
  zcons (zk_cvi (pc := 2) 170 rfl (ci := 8) rfl zw_1092 zw_1094 zsel_X8_isCustomer zds_X8_isCustomer (by decide) zw_1095 zw_9 (by decide +kernel)) (
  zcons (zk_ifne (pc := 5) (off := 6) (by decide) (by decide +kernel)) (
  zcons (zk_ldc (pc := 8) zw_1005 (by decide +kernel)) (
  zcons (zk_reti (pc := 10) rfl (by decide +kernel)) (
  zcons (zk_aload_n (pc := 11) (j := 0) rfl (by decide +kernel)) (
  zcons (zk_getr (pc := 12) (ci := 8) (j := 10) rfl zinX8 (by decide) zw_935 (by decide +kernel)) (
  zcons (zk_bipush (pc := 15) (z := 26) (by decide) (by decide +kernel)) (
  zcons (zk_iload_n (pc := 17) (j := 1) rfl (by decide +kernel)) (
  zcons (zk_iadd (pc := 18) (by decide +kernel)) (
  zcons (zk_iaload (pc := 19) (by decide +kernel)) (
  zcons (zk_ifle (pc := 20) (off := 6) (by decide) (by decide +kernel)) (
  zcons (zk_ldc (pc := 23) zw_1087 (by decide +kernel)) (
  zcons (zk_reti (pc := 25) rfl (by decide +kernel)) (
  zcons (zk_aload_n (pc := 26) (j := 0) rfl (by decide +kernel)) (
  zcons (zk_cvv (pc := 27) 194 rfl (ci := 8) rfl zw_1210 zw_1212 zsel_X8_surveys zds_X8_surveys (by decide) zw_1213 zw_9 (by decide +kernel)) (
  zcons (zk_iconst (pc := 30) (z := 0) (by decide) (by decide +kernel)) (
  zcons (zk_istore_n (pc := 31) (j := 2) rfl (by decide +kernel)) (
  zcons (zk_iconst (pc := 32) (z := 1) (by decide) (by decide +kernel)) (
  zcons (zk_istore_n (pc := 33) (j := 3) rfl (by decide +kernel)) (
  zcons (zk_iload_n (pc := 34) (j := 3) rfl (by decide +kernel)) (
  zcons (zk_iconst (pc := 35) (z := 1) (by decide) (by decide +kernel)) (
  zcons (zk_aload_n (pc := 36) (j := 0) rfl (by decide +kernel)) (
  zcons (zk_getr (pc := 37) (ci := 8) (j := 10) rfl zinX8 (by decide) zw_935 (by decide +kernel)) (
  zcons (zk_iconst (pc := 40) (z := 0) (by decide) (by decide +kernel)) (
  zcons (zk_iaload (pc := 41) (by decide +kernel)) (
  zcons (zk_ishl (pc := 42) (by decide +kernel)) (
  zcons (zk_icge (pc := 43) (off := 26) (by decide) (by decide +kernel)) (
  zcons (zk_iload_n (pc := 46) (j := 2) rfl (by decide +kernel)) (
  zcons (zk_aload_n (pc := 47) (j := 0) rfl (by decide +kernel)) (
  zcons (zk_iload_n (pc := 48) (j := 1) rfl (by decide +kernel)) (
  zcons (zk_iload_n (pc := 49) (j := 3) rfl (by decide +kernel)) (
  zcons (zk_cvi (pc := 50) 199 rfl (ci := 8) rfl zw_1226 zw_1228 zsel_X8_fitsFor zds_X8_fitsFor (by decide) zw_1229 zw_9 (by decide +kernel)) (
  zcons (zk_ifeq (pc := 53) (off := 7) (by decide) (by decide +kernel)) (
  zcons (zk_iconst (pc := 56) (z := 1) (by decide) (by decide +kernel)) (
  zcons (zk_goto (pc := 57) (off := 4) (by decide) (by decide +kernel)) (
  zcons (zk_iconst (pc := 60) (z := 0) (by decide) (by decide +kernel)) (
  zcons (zk_iadd (pc := 61) (by decide +kernel)) (
  zcons (zk_istore_n (pc := 62) (j := 2) rfl (by decide +kernel)) (
  zcons (zk_iinc (pc := 63) (z := 1) (by decide) (by decide +kernel)) (
  zcons (zk_goto (pc := 66) (off := (-32)) (by decide) (by decide +kernel)) (
  zcons (zk_iload_n (pc := 69) (j := 2) rfl (by decide +kernel)) (
  zcons (zk_reti (pc := 70) rfl (by decide +kernel)) (znil))))))))))))))))))))))))))))))))))))))))))))
def tb_X8_thrift : List (Nat × ZP) := [(0, zo_al 0 1), (1, zo_il 1 2), (2, zo_cvi 8 170 1 5), (5, zo_ifeq 17 8), (8, zo_il 2 9), (9, zo_i 0 10), (10, zo_i 1 11), (11, zo_csi 143 3 14), (14, zo_ifne 20 17), (17, zo_i (-1000001) 19), (19, zo_reti), (20, zo_al 0 21), (21, zo_getr 8 10 24), (24, zo_i 26 26), (26, zo_il 1 27), (27, zo_bin (· + ·) 28), (28, zo_iald 29), (29, zo_ifle 35 32), (32, zo_i (-1000002) 34), (34, zo_reti), (35, zo_al 0 36), (36, zo_cvv 8 194 0 39), (39, zo_i 0 40), (40, zo_is 3 41), (41, zo_i 1 42), (42, zo_is 4 44), (44, zo_il 4 46), (46, zo_i 1 47), (47, zo_al 0 48), (48, zo_getr 8 10 51), (51, zo_i 0 52), (52, zo_iald 53), (53, zo_bin zshl 54), (54, zo_icge 98 57), (57, zo_al 0 58), (58, zo_il 1 59), (59, zo_il 4 61), (61, zo_cvi 8 199 2 64), (64, zo_ifeq 90 67), (67, zo_il 3 68), (68, zo_ifeq 85 71), (71, zo_al 0 72), (72, zo_il 4 74), (74, zo_cvi 8 195 1 77), (77, zo_al 0 78), (78, zo_il 3 79), (79, zo_cvi 8 195 1 82), (82, zo_icge 90 85), (85, zo_il 4 87), (87, zo_goto 91), (90, zo_il 3 91), (91, zo_is 3 92), (92, zo_inc 4 1 95), (95, zo_goto 44), (98, zo_il 3 99), (99, zo_ifne 107 102), (102, zo_i (-1000000) 104), (104, zo_goto 120), (107, zo_il 2 108), (108, zo_ifne 115 111), (111, zo_il 3 112), (112, zo_goto 120), (115, zo_al 0 116), (116, zo_il 3 117), (117, zo_cvi 8 195 1 120), (120, zo_reti)]
def cu_X8_thrift : List (Nat × List Bool) := [(44, [true, true, true, true, true])]
set_option maxRecDepth 100000 in
set_option maxHeartbeats 4000000 in
theorem ok_X8_thrift : ∀ e ∈ tb_X8_thrift, ZOK zmt cX8_thrift RX8 1 e.1 e.2 :=
  zcons (zk_aload_n (pc := 0) (j := 0) rfl (by decide +kernel)) (
  zcons (zk_iload_n (pc := 1) (j := 1) rfl (by decide +kernel)) (
  zcons (zk_cvi (pc := 2) 170 rfl (ci := 8) rfl zw_1092 zw_1094 zsel_X8_isCustomer zds_X8_isCustomer (by decide) zw_1095 zw_9 (by decide +kernel)) (
  zcons (zk_ifeq (pc := 5) (off := 12) (by decide) (by decide +kernel)) (
  zcons (zk_iload_n (pc := 8) (j := 2) rfl (by decide +kernel)) (
  zcons (zk_iconst (pc := 9) (z := 0) (by decide) (by decide +kernel)) (
  zcons (zk_iconst (pc := 10) (z := 1) (by decide) (by decide +kernel)) (
  zcons (zk_csi (pc := 11) 143 rfl zw_1002 zw_1003 zds_X8_in (by decide) zw_1004 zw_9 (by decide +kernel)) (
  zcons (zk_ifne (pc := 14) (off := 6) (by decide) (by decide +kernel)) (
  zcons (zk_ldc (pc := 17) zw_1005 (by decide +kernel)) (
  zcons (zk_reti (pc := 19) rfl (by decide +kernel)) (
  zcons (zk_aload_n (pc := 20) (j := 0) rfl (by decide +kernel)) (
  zcons (zk_getr (pc := 21) (ci := 8) (j := 10) rfl zinX8 (by decide) zw_935 (by decide +kernel)) (
  zcons (zk_bipush (pc := 24) (z := 26) (by decide) (by decide +kernel)) (
  zcons (zk_iload_n (pc := 26) (j := 1) rfl (by decide +kernel)) (
  zcons (zk_iadd (pc := 27) (by decide +kernel)) (
  zcons (zk_iaload (pc := 28) (by decide +kernel)) (
  zcons (zk_ifle (pc := 29) (off := 6) (by decide) (by decide +kernel)) (
  zcons (zk_ldc (pc := 32) zw_1087 (by decide +kernel)) (
  zcons (zk_reti (pc := 34) rfl (by decide +kernel)) (
  zcons (zk_aload_n (pc := 35) (j := 0) rfl (by decide +kernel)) (
  zcons (zk_cvv (pc := 36) 194 rfl (ci := 8) rfl zw_1210 zw_1212 zsel_X8_surveys zds_X8_surveys (by decide) zw_1213 zw_9 (by decide +kernel)) (
  zcons (zk_iconst (pc := 39) (z := 0) (by decide) (by decide +kernel)) (
  zcons (zk_istore_n (pc := 40) (j := 3) rfl (by decide +kernel)) (
  zcons (zk_iconst (pc := 41) (z := 1) (by decide) (by decide +kernel)) (
  zcons (zk_istore (pc := 42) (by decide +kernel)) (
  zcons (zk_iload (pc := 44) (by decide +kernel)) (
  zcons (zk_iconst (pc := 46) (z := 1) (by decide) (by decide +kernel)) (
  zcons (zk_aload_n (pc := 47) (j := 0) rfl (by decide +kernel)) (
  zcons (zk_getr (pc := 48) (ci := 8) (j := 10) rfl zinX8 (by decide) zw_935 (by decide +kernel)) (
  zcons (zk_iconst (pc := 51) (z := 0) (by decide) (by decide +kernel)) (
  zcons (zk_iaload (pc := 52) (by decide +kernel)) (
  zcons (zk_ishl (pc := 53) (by decide +kernel)) (
  zcons (zk_icge (pc := 54) (off := 44) (by decide) (by decide +kernel)) (
  zcons (zk_aload_n (pc := 57) (j := 0) rfl (by decide +kernel)) (
  zcons (zk_iload_n (pc := 58) (j := 1) rfl (by decide +kernel)) (
  zcons (zk_iload (pc := 59) (by decide +kernel)) (
  zcons (zk_cvi (pc := 61) 199 rfl (ci := 8) rfl zw_1226 zw_1228 zsel_X8_fitsFor zds_X8_fitsFor (by decide) zw_1229 zw_9 (by decide +kernel)) (
  zcons (zk_ifeq (pc := 64) (off := 26) (by decide) (by decide +kernel)) (
  zcons (zk_iload_n (pc := 67) (j := 3) rfl (by decide +kernel)) (
  zcons (zk_ifeq (pc := 68) (off := 17) (by decide) (by decide +kernel)) (
  zcons (zk_aload_n (pc := 71) (j := 0) rfl (by decide +kernel)) (
  zcons (zk_iload (pc := 72) (by decide +kernel)) (
  zcons (zk_cvi (pc := 74) 195 rfl (ci := 8) rfl zw_1214 zw_1216 zsel_X8_paysBy zds_X8_paysBy (by decide) zw_1217 zw_9 (by decide +kernel)) (
  zcons (zk_aload_n (pc := 77) (j := 0) rfl (by decide +kernel)) (
  zcons (zk_iload_n (pc := 78) (j := 3) rfl (by decide +kernel)) (
  zcons (zk_cvi (pc := 79) 195 rfl (ci := 8) rfl zw_1214 zw_1216 zsel_X8_paysBy zds_X8_paysBy (by decide) zw_1217 zw_9 (by decide +kernel)) (
  zcons (zk_icge (pc := 82) (off := 8) (by decide) (by decide +kernel)) (
  zcons (zk_iload (pc := 85) (by decide +kernel)) (
  zcons (zk_goto (pc := 87) (off := 4) (by decide) (by decide +kernel)) (
  zcons (zk_iload_n (pc := 90) (j := 3) rfl (by decide +kernel)) (
  zcons (zk_istore_n (pc := 91) (j := 3) rfl (by decide +kernel)) (
  zcons (zk_iinc (pc := 92) (z := 1) (by decide) (by decide +kernel)) (
  zcons (zk_goto (pc := 95) (off := (-51)) (by decide) (by decide +kernel)) (
  zcons (zk_iload_n (pc := 98) (j := 3) rfl (by decide +kernel)) (
  zcons (zk_ifne (pc := 99) (off := 8) (by decide) (by decide +kernel)) (
  zcons (zk_ldc (pc := 102) zw_1169 (by decide +kernel)) (
  zcons (zk_goto (pc := 104) (off := 16) (by decide) (by decide +kernel)) (
  zcons (zk_iload_n (pc := 107) (j := 2) rfl (by decide +kernel)) (
  zcons (zk_ifne (pc := 108) (off := 7) (by decide) (by decide +kernel)) (
  zcons (zk_iload_n (pc := 111) (j := 3) rfl (by decide +kernel)) (
  zcons (zk_goto (pc := 112) (off := 8) (by decide) (by decide +kernel)) (
  zcons (zk_aload_n (pc := 115) (j := 0) rfl (by decide +kernel)) (
  zcons (zk_iload_n (pc := 116) (j := 3) rfl (by decide +kernel)) (
  zcons (zk_cvi (pc := 117) 195 rfl (ci := 8) rfl zw_1214 zw_1216 zsel_X8_paysBy zds_X8_paysBy (by decide) zw_1217 zw_9 (by decide +kernel)) (
  zcons (zk_reti (pc := 120) rfl (by decide +kernel)) (znil))))))))))))))))))))))))))))))))))))))))))))))))))))))))))))))))))
def tb_X8_serveAll : List (Nat × ZP) := [(0, zo_al 0 1), (1, zo_cvv 8 194 0 4), (4, zo_al 0 5), (5, zo_cvi 8 173 0 8), (8, zo_is 1 9), (9, zo_i 0 10), (10, zo_is 2 11), (11, zo_il 2 12), (12, zo_i 1 13), (13, zo_al 0 14), (14, zo_getr 8 10 17), (17, zo_i 0 18), (18, zo_iald 19), (19, zo_bin zshl 20), (20, zo_icge 255 23), (23, zo_l 1 24), (24, zo_ls 3 25), (25, zo_il 2 26), (26, zo_al 0 27), (27, zo_cvi 8 171 0 30), (30, zo_bin (· &&& ·) 31), (31, zo_ifne 231 34), (34, zo_il 2 35), (35, zo_ifle 231 38), (38, zo_i 1 39), (39, zo_il 2 40), (40, zo_csi 175 1 43), (43, zo_bin zshl 44), (44, zo_is 5 46), (46, zo_ll 3 47), (47, zo_al 0 48), (48, zo_getr 8 17 51), (51, zo_il 2 52), (52, zo_il 5 54), (54, zo_i (-1) 55), (55, zo_bin (· ^^^ ·) 56), (56, zo_bin (· &&& ·) 57), (57, zo_lald 58), (58, zo_l 4294967295 61), (61, zo_lbin (· &&& ·) 62), (62, zo_lbin (· ||| ·) 63), (63, zo_ls 3 64), (64, zo_il 2 65), (65, zo_il 5 67), (67, zo_i (-1) 68), (68, zo_bin (· ^^^ ·) 69), (69, zo_bin (· &&& ·) 70), (70, zo_is 6 72), (72, zo_il 6 74), (74, zo_is 7 76), (76, zo_i 1 77), (77, zo_is 8 79), (79, zo_il 8 81), (81, zo_ifeq 231 84), (84, zo_il 7 86), (86, zo_il 5 88), (88, zo_bin (· ||| ·) 89), (89, zo_is 9 91), (91, zo_al 0 92), (92, zo_getr 8 17 95), (95, zo_il 2 96), (96, zo_il 9 98), (98, zo_i (-1) 99), (99, zo_bin (· ^^^ ·) 100), (100, zo_bin (· &&& ·) 101), (101, zo_lald 102), (102, zo_l 4294967295 105), (105, zo_lbin (· &&& ·) 106), (106, zo_ls 10 108), (108, zo_al 0 109), (109, zo_il 9 111), (111, zo_cvi 8 195 1 114), (114, zo_is 12 116), (116, zo_i 0 117), (117, zo_is 13 119), (119, zo_il 13 121), (121, zo_al 0 122), (122, zo_getr 8 10 125), (125, zo_i 2 126), (126, zo_iald 127), (127, zo_icge 207 130), (130, zo_il 1 131), (131, zo_il 13 133), (133, zo_csi 144 2 136), (136, zo_ifne 171 139), (139, zo_il 12 141), (141, zo_al 0 142), (142, zo_getr 8 10 145), (145, zo_i 13 147), (147, zo_il 13 149), (149, zo_bin (· + ·) 150), (150, zo_iald 151), (151, zo_al 0 152), (152, zo_getr 8 10 155), (155, zo_i 18 157), (157, zo_il 13 159), (159, zo_bin (· + ·) 160), (160, zo_iald 161), (161, zo_csi 143 3 164), (164, zo_ifeq 171 167), (167, zo_i 1 168), (168, zo_goto 172), (171, zo_i 0 172), (172, zo_is 14 174), (174, zo_ll 3 175), (175, zo_il 14 177), (177, zo_ifeq 198 180), (180, zo_ll 10 182), (182, zo_al 0 183), (183, zo_getr 8 20 186), (186, zo_il 13 188), (188, zo_lald 189), (189, zo_lbin (· &&& ·) 190), (190, zo_i 1 191), (191, zo_il 13 193), (193, zo_bin zshl 194), (194, zo_lsh zlshl 195), (195, zo_goto 199), (198, zo_l 0 199), (199, zo_lbin (· ||| ·) 200), (200, zo_ls 3 201), (201, zo_inc 13 1 204), (204, zo_goto 119), (207, zo_il 7 209), (209, zo_ifle 216 212), (212, zo_i 1 213), (213, zo_goto 217), (216, zo_i 0 217), (217, zo_is 8 219), (219, zo_il 7 221), (221, zo_i 1 222), (222, zo_bin (· - ·) 223), (223, zo_il 6 225), (225, zo_bin (· &&& ·) 226), (226, zo_is 7 228), (228, zo_goto 79), (231, zo_al 0 232), (232, zo_getr 8 17 235), (235, zo_il 2 236), (236, zo_al 0 237), (237, zo_getr 8 17 240), (240, zo_il 2 241), (241, zo_lald 242), (242, zo_l (-4294967296) 245), (245, zo_lbin (· &&& ·) 246), (246, zo_ll 3 247), (247, zo_lbin (· ||| ·) 248), (248, zo_last 249), (249, zo_inc 2 1 252), (252, zo_goto 11), (255, zo_retv)]
def cu_X8_serveAll : List (Nat × List Bool) := [(11, [true, true, true, false, false, false, false, false, false, false, false, false, false, false, false]), (79, [true, true, true, true, false, true, true, true, true, false, false, false, false, false, false]), (119, [true, true, true, true, false, true, true, true, false, false, true, false, true, true, false])]
set_option maxRecDepth 100000 in
set_option maxHeartbeats 4000000 in
theorem ok_X8_serveAll : ∀ e ∈ tb_X8_serveAll, ZOK zmt cX8_serveAll RX8 0 e.1 e.2 :=
  zcons (zk_aload_n (pc := 0) (j := 0) rfl (by decide +kernel)) (
  zcons (zk_cvv (pc := 1) 194 rfl (ci := 8) rfl zw_1210 zw_1212 zsel_X8_surveys zds_X8_surveys (by decide) zw_1213 zw_9 (by decide +kernel)) (
  zcons (zk_aload_n (pc := 4) (j := 0) rfl (by decide +kernel)) (
  zcons (zk_cvi (pc := 5) 173 rfl (ci := 8) rfl zw_1178 zw_1180 zsel_X8_servedNow zds_X8_servedNow (by decide) zw_1181 zw_9 (by decide +kernel)) (
  zcons (zk_istore_n (pc := 8) (j := 1) rfl (by decide +kernel)) (
  zcons (zk_iconst (pc := 9) (z := 0) (by decide) (by decide +kernel)) (
  zcons (zk_istore_n (pc := 10) (j := 2) rfl (by decide +kernel)) (
  zcons (zk_iload_n (pc := 11) (j := 2) rfl (by decide +kernel)) (
  zcons (zk_iconst (pc := 12) (z := 1) (by decide) (by decide +kernel)) (
  zcons (zk_aload_n (pc := 13) (j := 0) rfl (by decide +kernel)) (
  zcons (zk_getr (pc := 14) (ci := 8) (j := 10) rfl zinX8 (by decide) zw_935 (by decide +kernel)) (
  zcons (zk_iconst (pc := 17) (z := 0) (by decide) (by decide +kernel)) (
  zcons (zk_iaload (pc := 18) (by decide +kernel)) (
  zcons (zk_ishl (pc := 19) (by decide +kernel)) (
  zcons (zk_icge (pc := 20) (off := 235) (by decide) (by decide +kernel)) (
  zcons (zk_lconst (pc := 23) (z := 1) (by decide) (by decide +kernel)) (
  zcons (zk_lstore_n (pc := 24) (j := 3) rfl (by decide +kernel)) (
  zcons (zk_iload_n (pc := 25) (j := 2) rfl (by decide +kernel)) (
  zcons (zk_aload_n (pc := 26) (j := 0) rfl (by decide +kernel)) (
  zcons (zk_cvi (pc := 27) 171 rfl (ci := 8) rfl zw_1104 zw_1106 zsel_X8_gone zds_X8_gone (by decide) zw_1107 zw_9 (by decide +kernel)) (
  zcons (zk_iand (pc := 30) (by decide +kernel)) (
  zcons (zk_ifne (pc := 31) (off := 200) (by decide) (by decide +kernel)) (
  zcons (zk_iload_n (pc := 34) (j := 2) rfl (by decide +kernel)) (
  zcons (zk_ifle (pc := 35) (off := 196) (by decide) (by decide +kernel)) (
  zcons (zk_iconst (pc := 38) (z := 1) (by decide) (by decide +kernel)) (
  zcons (zk_iload_n (pc := 39) (j := 2) rfl (by decide +kernel)) (
  zcons (zk_csi (pc := 40) 175 rfl zw_1112 zw_1113 zds_X8_lowest (by decide) zw_1114 zw_9 (by decide +kernel)) (
  zcons (zk_ishl (pc := 43) (by decide +kernel)) (
  zcons (zk_istore (pc := 44) (by decide +kernel)) (
  zcons (zk_lload_n (pc := 46) (j := 3) rfl (by decide +kernel)) (
  zcons (zk_aload_n (pc := 47) (j := 0) rfl (by decide +kernel)) (
  zcons (zk_getr (pc := 48) (ci := 8) (j := 17) rfl zinX8 (by decide) zw_942 (by decide +kernel)) (
  zcons (zk_iload_n (pc := 51) (j := 2) rfl (by decide +kernel)) (
  zcons (zk_iload (pc := 52) (by decide +kernel)) (
  zcons (zk_iconst (pc := 54) (z := (-1)) (by decide) (by decide +kernel)) (
  zcons (zk_ixor (pc := 55) (by decide +kernel)) (
  zcons (zk_iand (pc := 56) (by decide +kernel)) (
  zcons (zk_laload (pc := 57) (by decide +kernel)) (
  zcons (zk_ldc2 (pc := 58) zw_1246 (by decide +kernel)) (
  zcons (zk_land (pc := 61) (by decide +kernel)) (
  zcons (zk_lor (pc := 62) (by decide +kernel)) (
  zcons (zk_lstore_n (pc := 63) (j := 3) rfl (by decide +kernel)) (
  zcons (zk_iload_n (pc := 64) (j := 2) rfl (by decide +kernel)) (
  zcons (zk_iload (pc := 65) (by decide +kernel)) (
  zcons (zk_iconst (pc := 67) (z := (-1)) (by decide) (by decide +kernel)) (
  zcons (zk_ixor (pc := 68) (by decide +kernel)) (
  zcons (zk_iand (pc := 69) (by decide +kernel)) (
  zcons (zk_istore (pc := 70) (by decide +kernel)) (
  zcons (zk_iload (pc := 72) (by decide +kernel)) (
  zcons (zk_istore (pc := 74) (by decide +kernel)) (
  zcons (zk_iconst (pc := 76) (z := 1) (by decide) (by decide +kernel)) (
  zcons (zk_istore (pc := 77) (by decide +kernel)) (
  zcons (zk_iload (pc := 79) (by decide +kernel)) (
  zcons (zk_ifeq (pc := 81) (off := 150) (by decide) (by decide +kernel)) (
  zcons (zk_iload (pc := 84) (by decide +kernel)) (
  zcons (zk_iload (pc := 86) (by decide +kernel)) (
  zcons (zk_ior (pc := 88) (by decide +kernel)) (
  zcons (zk_istore (pc := 89) (by decide +kernel)) (
  zcons (zk_aload_n (pc := 91) (j := 0) rfl (by decide +kernel)) (
  zcons (zk_getr (pc := 92) (ci := 8) (j := 17) rfl zinX8 (by decide) zw_942 (by decide +kernel)) (
  zcons (zk_iload_n (pc := 95) (j := 2) rfl (by decide +kernel)) (
  zcons (zk_iload (pc := 96) (by decide +kernel)) (
  zcons (zk_iconst (pc := 98) (z := (-1)) (by decide) (by decide +kernel)) (
  zcons (zk_ixor (pc := 99) (by decide +kernel)) (
  zcons (zk_iand (pc := 100) (by decide +kernel)) (
  zcons (zk_laload (pc := 101) (by decide +kernel)) (
  zcons (zk_ldc2 (pc := 102) zw_1246 (by decide +kernel)) (
  zcons (zk_land (pc := 105) (by decide +kernel)) (
  zcons (zk_lstore (pc := 106) (by decide +kernel)) (
  zcons (zk_aload_n (pc := 108) (j := 0) rfl (by decide +kernel)) (
  zcons (zk_iload (pc := 109) (by decide +kernel)) (
  zcons (zk_cvi (pc := 111) 195 rfl (ci := 8) rfl zw_1214 zw_1216 zsel_X8_paysBy zds_X8_paysBy (by decide) zw_1217 zw_9 (by decide +kernel)) (
  zcons (zk_istore (pc := 114) (by decide +kernel)) (
  zcons (zk_iconst (pc := 116) (z := 0) (by decide) (by decide +kernel)) (
  zcons (zk_istore (pc := 117) (by decide +kernel)) (
  zcons (zk_iload (pc := 119) (by decide +kernel)) (
  zcons (zk_aload_n (pc := 121) (j := 0) rfl (by decide +kernel)) (
  zcons (zk_getr (pc := 122) (ci := 8) (j := 10) rfl zinX8 (by decide) zw_935 (by decide +kernel)) (
  zcons (zk_iconst (pc := 125) (z := 2) (by decide) (by decide +kernel)) (
  zcons (zk_iaload (pc := 126) (by decide +kernel)) (
  zcons (zk_icge (pc := 127) (off := 80) (by decide) (by decide +kernel)) (
  zcons (zk_iload_n (pc := 130) (j := 1) rfl (by decide +kernel)) (
  zcons (zk_iload (pc := 131) (by decide +kernel)) (
  zcons (zk_csi (pc := 133) 144 rfl zw_1115 zw_1116 zds_X8_has (by decide) zw_1117 zw_9 (by decide +kernel)) (
  zcons (zk_ifne (pc := 136) (off := 35) (by decide) (by decide +kernel)) (
  zcons (zk_iload (pc := 139) (by decide +kernel)) (
  zcons (zk_aload_n (pc := 141) (j := 0) rfl (by decide +kernel)) (
  zcons (zk_getr (pc := 142) (ci := 8) (j := 10) rfl zinX8 (by decide) zw_935 (by decide +kernel)) (
  zcons (zk_bipush (pc := 145) (z := 13) (by decide) (by decide +kernel)) (
  zcons (zk_iload (pc := 147) (by decide +kernel)) (
  zcons (zk_iadd (pc := 149) (by decide +kernel)) (
  zcons (zk_iaload (pc := 150) (by decide +kernel)) (
  zcons (zk_aload_n (pc := 151) (j := 0) rfl (by decide +kernel)) (
  zcons (zk_getr (pc := 152) (ci := 8) (j := 10) rfl zinX8 (by decide) zw_935 (by decide +kernel)) (
  zcons (zk_bipush (pc := 155) (z := 18) (by decide) (by decide +kernel)) (
  zcons (zk_iload (pc := 157) (by decide +kernel)) (
  zcons (zk_iadd (pc := 159) (by decide +kernel)) (
  zcons (zk_iaload (pc := 160) (by decide +kernel)) (
  zcons (zk_csi (pc := 161) 143 rfl zw_1002 zw_1003 zds_X8_in (by decide) zw_1004 zw_9 (by decide +kernel)) (
  zcons (zk_ifeq (pc := 164) (off := 7) (by decide) (by decide +kernel)) (
  zcons (zk_iconst (pc := 167) (z := 1) (by decide) (by decide +kernel)) (
  zcons (zk_goto (pc := 168) (off := 4) (by decide) (by decide +kernel)) (
  zcons (zk_iconst (pc := 171) (z := 0) (by decide) (by decide +kernel)) (
  zcons (zk_istore (pc := 172) (by decide +kernel)) (
  zcons (zk_lload_n (pc := 174) (j := 3) rfl (by decide +kernel)) (
  zcons (zk_iload (pc := 175) (by decide +kernel)) (
  zcons (zk_ifeq (pc := 177) (off := 21) (by decide) (by decide +kernel)) (
  zcons (zk_lload (pc := 180) (by decide +kernel)) (
  zcons (zk_aload_n (pc := 182) (j := 0) rfl (by decide +kernel)) (
  zcons (zk_getr (pc := 183) (ci := 8) (j := 20) rfl zinX8 (by decide) zw_945 (by decide +kernel)) (
  zcons (zk_iload (pc := 186) (by decide +kernel)) (
  zcons (zk_laload (pc := 188) (by decide +kernel)) (
  zcons (zk_land (pc := 189) (by decide +kernel)) (
  zcons (zk_iconst (pc := 190) (z := 1) (by decide) (by decide +kernel)) (
  zcons (zk_iload (pc := 191) (by decide +kernel)) (
  zcons (zk_ishl (pc := 193) (by decide +kernel)) (
  zcons (zk_lshl (pc := 194) (by decide +kernel)) (
  zcons (zk_goto (pc := 195) (off := 4) (by decide) (by decide +kernel)) (
  zcons (zk_lconst (pc := 198) (z := 0) (by decide) (by decide +kernel)) (
  zcons (zk_lor (pc := 199) (by decide +kernel)) (
  zcons (zk_lstore_n (pc := 200) (j := 3) rfl (by decide +kernel)) (
  zcons (zk_iinc (pc := 201) (z := 1) (by decide) (by decide +kernel)) (
  zcons (zk_goto (pc := 204) (off := (-85)) (by decide) (by decide +kernel)) (
  zcons (zk_iload (pc := 207) (by decide +kernel)) (
  zcons (zk_ifle (pc := 209) (off := 7) (by decide) (by decide +kernel)) (
  zcons (zk_iconst (pc := 212) (z := 1) (by decide) (by decide +kernel)) (
  zcons (zk_goto (pc := 213) (off := 4) (by decide) (by decide +kernel)) (
  zcons (zk_iconst (pc := 216) (z := 0) (by decide) (by decide +kernel)) (
  zcons (zk_istore (pc := 217) (by decide +kernel)) (
  zcons (zk_iload (pc := 219) (by decide +kernel)) (
  zcons (zk_iconst (pc := 221) (z := 1) (by decide) (by decide +kernel)) (
  zcons (zk_isub (pc := 222) (by decide +kernel)) (
  zcons (zk_iload (pc := 223) (by decide +kernel)) (
  zcons (zk_iand (pc := 225) (by decide +kernel)) (
  zcons (zk_istore (pc := 226) (by decide +kernel)) (
  zcons (zk_goto (pc := 228) (off := (-149)) (by decide) (by decide +kernel)) (
  zcons (zk_aload_n (pc := 231) (j := 0) rfl (by decide +kernel)) (
  zcons (zk_getr (pc := 232) (ci := 8) (j := 17) rfl zinX8 (by decide) zw_942 (by decide +kernel)) (
  zcons (zk_iload_n (pc := 235) (j := 2) rfl (by decide +kernel)) (
  zcons (zk_aload_n (pc := 236) (j := 0) rfl (by decide +kernel)) (
  zcons (zk_getr (pc := 237) (ci := 8) (j := 17) rfl zinX8 (by decide) zw_942 (by decide +kernel)) (
  zcons (zk_iload_n (pc := 240) (j := 2) rfl (by decide +kernel)) (
  zcons (zk_laload (pc := 241) (by decide +kernel)) (
  zcons (zk_ldc2 (pc := 242) zw_1247 (by decide +kernel)) (
  zcons (zk_land (pc := 245) (by decide +kernel)) (
  zcons (zk_lload_n (pc := 246) (j := 3) rfl (by decide +kernel)) (
  zcons (zk_lor (pc := 247) (by decide +kernel)) (
  zcons (zk_lastore (pc := 248) (by decide +kernel)) (
  zcons (zk_iinc (pc := 249) (z := 1) (by decide) (by decide +kernel)) (
  zcons (zk_goto (pc := 252) (off := (-241)) (by decide) (by decide +kernel)) (
  zcons (zk_retv (pc := 255) rfl (by decide +kernel)) (znil)))))))))))))))))))))))))))))))))))))))))))))))))))))))))))))))))))))))))))))))))))))))))))))))))))))))))))))))))))))))))))))))))))))))))))))))))))))))
def tb_X8_can : List (Nat × ZP) := [(0, zo_ll 0 1), (1, zo_il 2 2), (2, zo_lsh zlshr 3), (3, zo_l 1 4), (4, zo_lbin (· &&& ·) 5), (5, zo_l 1 6), (6, zo_lcmp 7), (7, zo_ifne 14 10), (10, zo_i 1 11), (11, zo_goto 15), (14, zo_i 0 15), (15, zo_retz)]
def cu_X8_can : List (Nat × List Bool) := []
set_option maxRecDepth 100000 in
set_option maxHeartbeats 4000000 in
theorem ok_X8_can : ∀ e ∈ tb_X8_can, ZOK zmt cX8_can RX8 3 e.1 e.2 :=
  zcons (zk_lload_n (pc := 0) (j := 0) rfl (by decide +kernel)) (
  zcons (zk_iload_n (pc := 1) (j := 2) rfl (by decide +kernel)) (
  zcons (zk_lshr (pc := 2) (by decide +kernel)) (
  zcons (zk_lconst (pc := 3) (z := 1) (by decide) (by decide +kernel)) (
  zcons (zk_land (pc := 4) (by decide +kernel)) (
  zcons (zk_lconst (pc := 5) (z := 1) (by decide) (by decide +kernel)) (
  zcons (zk_lcmp (pc := 6) (by decide +kernel)) (
  zcons (zk_ifne (pc := 7) (off := 7) (by decide) (by decide +kernel)) (
  zcons (zk_iconst (pc := 10) (z := 1) (by decide) (by decide +kernel)) (
  zcons (zk_goto (pc := 11) (off := 4) (by decide) (by decide +kernel)) (
  zcons (zk_iconst (pc := 14) (z := 0) (by decide) (by decide +kernel)) (
  zcons (zk_retz (pc := 15) rfl (by decide +kernel)) (znil))))))))))))
def tb_X8_serving : List (Nat × ZP) := [(0, zo_al 0 1), (1, zo_getr 8 10 4), (4, zo_i 0 5), (5, zo_iald 6), (6, zo_ifne 12 9), (9, zo_i (-1000002) 11), (11, zo_reti), (12, zo_il 1 13), (13, zo_i (-2) 15), (15, zo_al 0 16), (16, zo_getr 8 10 19), (19, zo_i 2 20), (20, zo_iald 21), (21, zo_i 1 22), (22, zo_bin (· - ·) 23), (23, zo_csi 143 3 26), (26, zo_ifne 32 29), (29, zo_i (-1000001) 31), (31, zo_reti), (32, zo_al 0 33), (33, zo_cvv 8 204 0 36), (36, zo_al 0 37), (37, zo_cvi 8 172 0 40), (40, zo_is 2 41), (41, zo_i 0 42), (42, zo_is 3 43), (43, zo_i 1 44), (44, zo_is 4 46), (46, zo_il 4 48), (48, zo_i 32 50), (50, zo_icge 92 53), (53, zo_al 0 54), (54, zo_getr 8 17 57), (57, zo_il 2 58), (58, zo_lald 59), (59, zo_il 4 61), (61, zo_csi 205 2 64), (64, zo_ifeq 84 67), (67, zo_il 4 69), (69, zo_csi 145 1 72), (72, zo_il 3 73), (73, zo_csi 145 1 76), (76, zo_icle 84 79), (79, zo_il 4 81), (81, zo_goto 85), (84, zo_il 3 85), (85, zo_is 3 86), (86, zo_inc 4 1 89), (89, zo_goto 46), (92, zo_il 1 93), (93, zo_ifge 110 96), (96, zo_il 1 97), (97, zo_i (-1) 98), (98, zo_icne 108 101), (101, zo_il 3 102), (102, zo_csi 145 1 105), (105, zo_goto 109), (108, zo_il 3 109), (109, zo_reti), (110, zo_il 2 111), (111, zo_is 4 113), (113, zo_il 3 114), (114, zo_is 5 116), (116, zo_i 0 117), (117, zo_is 6 119), (119, zo_i 0 120), (120, zo_is 7 122), (122, zo_il 7 124), (124, zo_il 1 125), (125, zo_icgt 220 128), (128, zo_i 0 129), (129, zo_is 6 131), (131, zo_il 3 132), (132, zo_il 7 134), (134, zo_csi 144 2 137), (137, zo_ifeq 214 140), (140, zo_il 5 142), (142, zo_i 1 143), (143, zo_il 7 145), (145, zo_bin zshl 146), (146, zo_i (-1) 147), (147, zo_bin (· ^^^ ·) 148), (148, zo_bin (· &&& ·) 149), (149, zo_is 5 151), (151, zo_i 1 152), (152, zo_is 8 154), (154, zo_il 8 156), (156, zo_il 4 158), (158, zo_i (-1) 159), (159, zo_bin (· ^^^ ·) 160), (160, zo_bin (· &&& ·) 161), (161, zo_ifne 195 164), (164, zo_al 0 165), (165, zo_il 7 167), (167, zo_il 8 169), (169, zo_cvi 8 199 2 172), (172, zo_ifeq 195 175), (175, zo_al 0 176), (176, zo_getr 8 17 179), (179, zo_il 4 181), (181, zo_il 8 183), (183, zo_i (-1) 184), (184, zo_bin (· ^^^ ·) 185), (185, zo_bin (· &&& ·) 186), (186, zo_lald 187), (187, zo_il 5 189), (189, zo_csi 205 2 192), (192, zo_ifne 201 195), (195, zo_inc 8 1 198), (198, zo_goto 154), (201, zo_il 8 203), (203, zo_is 6 205), (205, zo_il 4 207), (207, zo_il 8 209), (209, zo_i (-1) 210), (210, zo_bin (· ^^^ ·) 211), (211, zo_bin (· &&& ·) 212), (212, zo_is 4 214), (214, zo_inc 7 1 217), (217, zo_goto 122), (220, zo_il 6 222), (222, zo_reti)]
def cu_X8_serving : List (Nat × List Bool) := [(46, [true, true, true, true, true, false, false, false, false]), (122, [true, true, false, true, true, true, true, true, false]), (154, [true, true, false, true, true, true, false, true, true])]
set_option maxRecDepth 100000 in
set_option maxHeartbeats 4000000 in
theorem ok_X8_serving : ∀ e ∈ tb_X8_serving, ZOK zmt cX8_serving RX8 1 e.1 e.2 :=
  zcons (zk_aload_n (pc := 0) (j := 0) rfl (by decide +kernel)) (
  zcons (zk_getr (pc := 1) (ci := 8) (j := 10) rfl zinX8 (by decide) zw_935 (by decide +kernel)) (
  zcons (zk_iconst (pc := 4) (z := 0) (by decide) (by decide +kernel)) (
  zcons (zk_iaload (pc := 5) (by decide +kernel)) (
  zcons (zk_ifne (pc := 6) (off := 6) (by decide) (by decide +kernel)) (
  zcons (zk_ldc (pc := 9) zw_1087 (by decide +kernel)) (
  zcons (zk_reti (pc := 11) rfl (by decide +kernel)) (
  zcons (zk_iload_n (pc := 12) (j := 1) rfl (by decide +kernel)) (
  zcons (zk_bipush (pc := 13) (z := (-2)) (by decide) (by decide +kernel)) (
  zcons (zk_aload_n (pc := 15) (j := 0) rfl (by decide +kernel)) (
  zcons (zk_getr (pc := 16) (ci := 8) (j := 10) rfl zinX8 (by decide) zw_935 (by decide +kernel)) (
  zcons (zk_iconst (pc := 19) (z := 2) (by decide) (by decide +kernel)) (
  zcons (zk_iaload (pc := 20) (by decide +kernel)) (
  zcons (zk_iconst (pc := 21) (z := 1) (by decide) (by decide +kernel)) (
  zcons (zk_isub (pc := 22) (by decide +kernel)) (
  zcons (zk_csi (pc := 23) 143 rfl zw_1002 zw_1003 zds_X8_in (by decide) zw_1004 zw_9 (by decide +kernel)) (
  zcons (zk_ifne (pc := 26) (off := 6) (by decide) (by decide +kernel)) (
  zcons (zk_ldc (pc := 29) zw_1005 (by decide +kernel)) (
  zcons (zk_reti (pc := 31) rfl (by decide +kernel)) (
  zcons (zk_aload_n (pc := 32) (j := 0) rfl (by decide +kernel)) (
  zcons (zk_cvv (pc := 33) 204 rfl (ci := 8) rfl zw_1242 zw_1244 zsel_X8_serveAll zds_X8_serveAll (by decide) zw_1245 zw_9 (by decide +kernel)) (
  zcons (zk_aload_n (pc := 36) (j := 0) rfl (by decide +kernel)) (
  zcons (zk_cvi (pc := 37) 172 rfl (ci := 8) rfl zw_1100 zw_1102 zsel_X8_on zds_X8_on (by decide) zw_1103 zw_9 (by decide +kernel)) (
  zcons (zk_istore_n (pc := 40) (j := 2) rfl (by decide +kernel)) (
  zcons (zk_iconst (pc := 41) (z := 0) (by decide) (by decide +kernel)) (
  zcons (zk_istore_n (pc := 42) (j := 3) rfl (by decide +kernel)) (
  zcons (zk_iconst (pc := 43) (z := 1) (by decide) (by decide +kernel)) (
  zcons (zk_istore (pc := 44) (by decide +kernel)) (
  zcons (zk_iload (pc := 46) (by decide +kernel)) (
  zcons (zk_bipush (pc := 48) (z := 32) (by decide) (by decide +kernel)) (
  zcons (zk_icge (pc := 50) (off := 42) (by decide) (by decide +kernel)) (
  zcons (zk_aload_n (pc := 53) (j := 0) rfl (by decide +kernel)) (
  zcons (zk_getr (pc := 54) (ci := 8) (j := 17) rfl zinX8 (by decide) zw_942 (by decide +kernel)) (
  zcons (zk_iload_n (pc := 57) (j := 2) rfl (by decide +kernel)) (
  zcons (zk_laload (pc := 58) (by decide +kernel)) (
  zcons (zk_iload (pc := 59) (by decide +kernel)) (
  zcons (zk_csi (pc := 61) 205 rfl zw_1248 zw_1249 zds_X8_can (by decide) zw_1250 zw_9 (by decide +kernel)) (
  zcons (zk_ifeq (pc := 64) (off := 20) (by decide) (by decide +kernel)) (
  zcons (zk_iload (pc := 67) (by decide +kernel)) (
  zcons (zk_csi (pc := 69) 145 rfl zw_1126 zw_1127 zds_X8_ones (by decide) zw_1128 zw_9 (by decide +kernel)) (
  zcons (zk_iload_n (pc := 72) (j := 3) rfl (by decide +kernel)) (
  zcons (zk_csi (pc := 73) 145 rfl zw_1126 zw_1127 zds_X8_ones (by decide) zw_1128 zw_9 (by decide +kernel)) (
  zcons (zk_icle (pc := 76) (off := 8) (by decide) (by decide +kernel)) (
  zcons (zk_iload (pc := 79) (by decide +kernel)) (
  zcons (zk_goto (pc := 81) (off := 4) (by decide) (by decide +kernel)) (
  zcons (zk_iload_n (pc := 84) (j := 3) rfl (by decide +kernel)) (
  zcons (zk_istore_n (pc := 85) (j := 3) rfl (by decide +kernel)) (
  zcons (zk_iinc (pc := 86) (z := 1) (by decide) (by decide +kernel)) (
  zcons (zk_goto (pc := 89) (off := (-43)) (by decide) (by decide +kernel)) (
  zcons (zk_iload_n (pc := 92) (j := 1) rfl (by decide +kernel)) (
  zcons (zk_ifge (pc := 93) (off := 17) (by decide) (by decide +kernel)) (
  zcons (zk_iload_n (pc := 96) (j := 1) rfl (by decide +kernel)) (
  zcons (zk_iconst (pc := 97) (z := (-1)) (by decide) (by decide +kernel)) (
  zcons (zk_icne (pc := 98) (off := 10) (by decide) (by decide +kernel)) (
  zcons (zk_iload_n (pc := 101) (j := 3) rfl (by decide +kernel)) (
  zcons (zk_csi (pc := 102) 145 rfl zw_1126 zw_1127 zds_X8_ones (by decide) zw_1128 zw_9 (by decide +kernel)) (
  zcons (zk_goto (pc := 105) (off := 4) (by decide) (by decide +kernel)) (
  zcons (zk_iload_n (pc := 108) (j := 3) rfl (by decide +kernel)) (
  zcons (zk_reti (pc := 109) rfl (by decide +kernel)) (
  zcons (zk_iload_n (pc := 110) (j := 2) rfl (by decide +kernel)) (
  zcons (zk_istore (pc := 111) (by decide +kernel)) (
  zcons (zk_iload_n (pc := 113) (j := 3) rfl (by decide +kernel)) (
  zcons (zk_istore (pc := 114) (by decide +kernel)) (
  zcons (zk_iconst (pc := 116) (z := 0) (by decide) (by decide +kernel)) (
  zcons (zk_istore (pc := 117) (by decide +kernel)) (
  zcons (zk_iconst (pc := 119) (z := 0) (by decide) (by decide +kernel)) (
  zcons (zk_istore (pc := 120) (by decide +kernel)) (
  zcons (zk_iload (pc := 122) (by decide +kernel)) (
  zcons (zk_iload_n (pc := 124) (j := 1) rfl (by decide +kernel)) (
  zcons (zk_icgt (pc := 125) (off := 95) (by decide) (by decide +kernel)) (
  zcons (zk_iconst (pc := 128) (z := 0) (by decide) (by decide +kernel)) (
  zcons (zk_istore (pc := 129) (by decide +kernel)) (
  zcons (zk_iload_n (pc := 131) (j := 3) rfl (by decide +kernel)) (
  zcons (zk_iload (pc := 132) (by decide +kernel)) (
  zcons (zk_csi (pc := 134) 144 rfl zw_1115 zw_1116 zds_X8_has (by decide) zw_1117 zw_9 (by decide +kernel)) (
  zcons (zk_ifeq (pc := 137) (off := 77) (by decide) (by decide +kernel)) (
  zcons (zk_iload (pc := 140) (by decide +kernel)) (
  zcons (zk_iconst (pc := 142) (z := 1) (by decide) (by decide +kernel)) (
  zcons (zk_iload (pc := 143) (by decide +kernel)) (
  zcons (zk_ishl (pc := 145) (by decide +kernel)) (
  zcons (zk_iconst (pc := 146) (z := (-1)) (by decide) (by decide +kernel)) (
  zcons (zk_ixor (pc := 147) (by decide +kernel)) (
  zcons (zk_iand (pc := 148) (by decide +kernel)) (
  zcons (zk_istore (pc := 149) (by decide +kernel)) (
  zcons (zk_iconst (pc := 151) (z := 1) (by decide) (by decide +kernel)) (
  zcons (zk_istore (pc := 152) (by decide +kernel)) (
  zcons (zk_iload (pc := 154) (by decide +kernel)) (
  zcons (zk_iload (pc := 156) (by decide +kernel)) (
  zcons (zk_iconst (pc := 158) (z := (-1)) (by decide) (by decide +kernel)) (
  zcons (zk_ixor (pc := 159) (by decide +kernel)) (
  zcons (zk_iand (pc := 160) (by decide +kernel)) (
  zcons (zk_ifne (pc := 161) (off := 34) (by decide) (by decide +kernel)) (
  zcons (zk_aload_n (pc := 164) (j := 0) rfl (by decide +kernel)) (
  zcons (zk_iload (pc := 165) (by decide +kernel)) (
  zcons (zk_iload (pc := 167) (by decide +kernel)) (
  zcons (zk_cvi (pc := 169) 199 rfl (ci := 8) rfl zw_1226 zw_1228 zsel_X8_fitsFor zds_X8_fitsFor (by decide) zw_1229 zw_9 (by decide +kernel)) (
  zcons (zk_ifeq (pc := 172) (off := 23) (by decide) (by decide +kernel)) (
  zcons (zk_aload_n (pc := 175) (j := 0) rfl (by decide +kernel)) (
  zcons (zk_getr (pc := 176) (ci := 8) (j := 17) rfl zinX8 (by decide) zw_942 (by decide +kernel)) (
  zcons (zk_iload (pc := 179) (by decide +kernel)) (
  zcons (zk_iload (pc := 181) (by decide +kernel)) (
  zcons (zk_iconst (pc := 183) (z := (-1)) (by decide) (by decide +kernel)) (
  zcons (zk_ixor (pc := 184) (by decide +kernel)) (
  zcons (zk_iand (pc := 185) (by decide +kernel)) (
  zcons (zk_laload (pc := 186) (by decide +kernel)) (
  zcons (zk_iload (pc := 187) (by decide +kernel)) (
  zcons (zk_csi (pc := 189) 205 rfl zw_1248 zw_1249 zds_X8_can (by decide) zw_1250 zw_9 (by decide +kernel)) (
  zcons (zk_ifne (pc := 192) (off := 9) (by decide) (by decide +kernel)) (
  zcons (zk_iinc (pc := 195) (z := 1) (by decide) (by decide +kernel)) (
  zcons (zk_goto (pc := 198) (off := (-44)) (by decide) (by decide +kernel)) (
  zcons (zk_iload (pc := 201) (by decide +kernel)) (
  zcons (zk_istore (pc := 203) (by decide +kernel)) (
  zcons (zk_iload (pc := 205) (by decide +kernel)) (
  zcons (zk_iload (pc := 207) (by decide +kernel)) (
  zcons (zk_iconst (pc := 209) (z := (-1)) (by decide) (by decide +kernel)) (
  zcons (zk_ixor (pc := 210) (by decide +kernel)) (
  zcons (zk_iand (pc := 211) (by decide +kernel)) (
  zcons (zk_istore (pc := 212) (by decide +kernel)) (
  zcons (zk_iinc (pc := 214) (z := 1) (by decide) (by decide +kernel)) (
  zcons (zk_goto (pc := 217) (off := (-95)) (by decide) (by decide +kernel)) (
  zcons (zk_iload (pc := 220) (by decide +kernel)) (
  zcons (zk_reti (pc := 222) rfl (by decide +kernel)) (znil))))))))))))))))))))))))))))))))))))))))))))))))))))))))))))))))))))))))))))))))))))))))))))))))))))))))))))))))))))))))))
def tb_X8_couples : List (Nat × ZP) := [(0, zo_al 0 1), (1, zo_getr 8 10 4), (4, zo_i 0 5), (5, zo_iald 6), (6, zo_ifne 12 9), (9, zo_i (-1000002) 11), (11, zo_reti), (12, zo_i 0 13), (13, zo_is 1 14), (14, zo_il 1 15), (15, zo_i 1 16), (16, zo_al 0 17), (17, zo_getr 8 10 20), (20, zo_i 0 21), (21, zo_iald 22), (22, zo_bin zshl 23), (23, zo_icge 153 26), (26, zo_il 1 27), (27, zo_ifne 34 30), (30, zo_l 1 31), (31, zo_goto 35), (34, zo_l 0 35), (35, zo_ls 2 36), (36, zo_il 1 37), (37, zo_ifne 44 40), (40, zo_i 0 41), (41, zo_goto 48), (44, zo_il 1 45), (45, zo_csi 175 1 48), (48, zo_is 4 50), (50, zo_il 4 52), (52, zo_i 1 53), (53, zo_bin (· + ·) 54), (54, zo_is 5 56), (56, zo_il 5 58), (58, zo_al 0 59), (59, zo_getr 8 10 62), (62, zo_i 0 63), (63, zo_iald 64), (64, zo_icge 140 67), (67, zo_il 1 68), (68, zo_ifle 99 71), (71, zo_il 1 72), (72, zo_il 5 74), (74, zo_csi 144 2 77), (77, zo_ifeq 99 80), (80, zo_al 0 81), (81, zo_getr 8 12 84), (84, zo_il 4 86), (86, zo_iald 87), (87, zo_il 5 89), (89, zo_csi 144 2 92), (92, zo_ifeq 99 95), (95, zo_i 1 96), (96, zo_goto 100), (99, zo_i 0 100), (100, zo_is 6 102), (102, zo_ll 2 103), (103, zo_il 6 105), (105, zo_ifeq 131 108), (108, zo_al 0 109), (109, zo_getr 8 17 112), (112, zo_il 1 113), (113, zo_i 1 114), (114, zo_il 4 116), (116, zo_bin zshl 117), (117, zo_i (-1) 118), (118, zo_bin (· ^^^ ·) 119), (119, zo_bin (· &&& ·) 120), (120, zo_i 1 121), (121, zo_il 5 123), (123, zo_bin zshl 124), (124, zo_i (-1) 125), (125, zo_bin (· ^^^ ·) 126), (126, zo_bin (· &&& ·) 127), (127, zo_lald 128), (128, zo_goto 132), (131, zo_l 0 132), (132, zo_lbin (· + ·) 133), (133, zo_ls 2 134), (134, zo_inc 5 1 137), (137, zo_goto 56), (140, zo_al 0 141), (141, zo_getr 8 17 144), (144, zo_il 1 145), (145, zo_ll 2 146), (146, zo_last 147), (147, zo_inc 1 1 150), (150, zo_goto 14), (153, zo_al 0 154), (154, zo_getr 8 17 157), (157, zo_al 0 158), (158, zo_cvi 8 172 0 161), (161, zo_lald 162), (162, zo_l2i 163), (163, zo_reti)]
def cu_X8_couples : List (Nat × List Bool) := [(14, [true, true, false, false, false, false, false]), (56, [true, true, true, false, true, true, false])]
set_option maxRecDepth 100000 in
set_option maxHeartbeats 4000000 in
theorem ok_X8_couples : ∀ e ∈ tb_X8_couples, ZOK zmt cX8_couples RX8 1 e.1 e.2 :=
  zcons (zk_aload_n (pc := 0) (j := 0) rfl (by decide +kernel)) (
  zcons (zk_getr (pc := 1) (ci := 8) (j := 10) rfl zinX8 (by decide) zw_935 (by decide +kernel)) (
  zcons (zk_iconst (pc := 4) (z := 0) (by decide) (by decide +kernel)) (
  zcons (zk_iaload (pc := 5) (by decide +kernel)) (
  zcons (zk_ifne (pc := 6) (off := 6) (by decide) (by decide +kernel)) (
  zcons (zk_ldc (pc := 9) zw_1087 (by decide +kernel)) (
  zcons (zk_reti (pc := 11) rfl (by decide +kernel)) (
  zcons (zk_iconst (pc := 12) (z := 0) (by decide) (by decide +kernel)) (
  zcons (zk_istore_n (pc := 13) (j := 1) rfl (by decide +kernel)) (
  zcons (zk_iload_n (pc := 14) (j := 1) rfl (by decide +kernel)) (
  zcons (zk_iconst (pc := 15) (z := 1) (by decide) (by decide +kernel)) (
  zcons (zk_aload_n (pc := 16) (j := 0) rfl (by decide +kernel)) (
  zcons (zk_getr (pc := 17) (ci := 8) (j := 10) rfl zinX8 (by decide) zw_935 (by decide +kernel)) (
  zcons (zk_iconst (pc := 20) (z := 0) (by decide) (by decide +kernel)) (
  zcons (zk_iaload (pc := 21) (by decide +kernel)) (
  zcons (zk_ishl (pc := 22) (by decide +kernel)) (
  zcons (zk_icge (pc := 23) (off := 130) (by decide) (by decide +kernel)) (
  zcons (zk_iload_n (pc := 26) (j := 1) rfl (by decide +kernel)) (
  zcons (zk_ifne (pc := 27) (off := 7) (by decide) (by decide +kernel)) (
  zcons (zk_lconst (pc := 30) (z := 1) (by decide) (by decide +kernel)) (
  zcons (zk_goto (pc := 31) (off := 4) (by decide) (by decide +kernel)) (
  zcons (zk_lconst (pc := 34) (z := 0) (by decide) (by decide +kernel)) (
  zcons (zk_lstore_n (pc := 35) (j := 2) rfl (by decide +kernel)) (
  zcons (zk_iload_n (pc := 36) (j := 1) rfl (by decide +kernel)) (
  zcons (zk_ifne (pc := 37) (off := 7) (by decide) (by decide +kernel)) (
  zcons (zk_iconst (pc := 40) (z := 0) (by decide) (by decide +kernel)) (
  zcons (zk_goto (pc := 41) (off := 7) (by decide) (by decide +kernel)) (
  zcons (zk_iload_n (pc := 44) (j := 1) rfl (by decide +kernel)) (
  zcons (zk_csi (pc := 45) 175 rfl zw_1112 zw_1113 zds_X8_lowest (by decide) zw_1114 zw_9 (by decide +kernel)) (
  zcons (zk_istore (pc := 48) (by decide +kernel)) (
  zcons (zk_iload (pc := 50) (by decide +kernel)) (
  zcons (zk_iconst (pc := 52) (z := 1) (by decide) (by decide +kernel)) (
  zcons (zk_iadd (pc := 53) (by decide +kernel)) (
  zcons (zk_istore (pc := 54) (by decide +kernel)) (
  zcons (zk_iload (pc := 56) (by decide +kernel)) (
  zcons (zk_aload_n (pc := 58) (j := 0) rfl (by decide +kernel)) (
  zcons (zk_getr (pc := 59) (ci := 8) (j := 10) rfl zinX8 (by decide) zw_935 (by decide +kernel)) (
  zcons (zk_iconst (pc := 62) (z := 0) (by decide) (by decide +kernel)) (
  zcons (zk_iaload (pc := 63) (by decide +kernel)) (
  zcons (zk_icge (pc := 64) (off := 76) (by decide) (by decide +kernel)) (
  zcons (zk_iload_n (pc := 67) (j := 1) rfl (by decide +kernel)) (
  zcons (zk_ifle (pc := 68) (off := 31) (by decide) (by decide +kernel)) (
  zcons (zk_iload_n (pc := 71) (j := 1) rfl (by decide +kernel)) (
  zcons (zk_iload (pc := 72) (by decide +kernel)) (
  zcons (zk_csi (pc := 74) 144 rfl zw_1115 zw_1116 zds_X8_has (by decide) zw_1117 zw_9 (by decide +kernel)) (
  zcons (zk_ifeq (pc := 77) (off := 22) (by decide) (by decide +kernel)) (
  zcons (zk_aload_n (pc := 80) (j := 0) rfl (by decide +kernel)) (
  zcons (zk_getr (pc := 81) (ci := 8) (j := 12) rfl zinX8 (by decide) zw_937 (by decide +kernel)) (
  zcons (zk_iload (pc := 84) (by decide +kernel)) (
  zcons (zk_iaload (pc := 86) (by decide +kernel)) (
  zcons (zk_iload (pc := 87) (by decide +kernel)) (
  zcons (zk_csi (pc := 89) 144 rfl zw_1115 zw_1116 zds_X8_has (by decide) zw_1117 zw_9 (by decide +kernel)) (
  zcons (zk_ifeq (pc := 92) (off := 7) (by decide) (by decide +kernel)) (
  zcons (zk_iconst (pc := 95) (z := 1) (by decide) (by decide +kernel)) (
  zcons (zk_goto (pc := 96) (off := 4) (by decide) (by decide +kernel)) (
  zcons (zk_iconst (pc := 99) (z := 0) (by decide) (by decide +kernel)) (
  zcons (zk_istore (pc := 100) (by decide +kernel)) (
  zcons (zk_lload_n (pc := 102) (j := 2) rfl (by decide +kernel)) (
  zcons (zk_iload (pc := 103) (by decide +kernel)) (
  zcons (zk_ifeq (pc := 105) (off := 26) (by decide) (by decide +kernel)) (
  zcons (zk_aload_n (pc := 108) (j := 0) rfl (by decide +kernel)) (
  zcons (zk_getr (pc := 109) (ci := 8) (j := 17) rfl zinX8 (by decide) zw_942 (by decide +kernel)) (
  zcons (zk_iload_n (pc := 112) (j := 1) rfl (by decide +kernel)) (
  zcons (zk_iconst (pc := 113) (z := 1) (by decide) (by decide +kernel)) (
  zcons (zk_iload (pc := 114) (by decide +kernel)) (
  zcons (zk_ishl (pc := 116) (by decide +kernel)) (
  zcons (zk_iconst (pc := 117) (z := (-1)) (by decide) (by decide +kernel)) (
  zcons (zk_ixor (pc := 118) (by decide +kernel)) (
  zcons (zk_iand (pc := 119) (by decide +kernel)) (
  zcons (zk_iconst (pc := 120) (z := 1) (by decide) (by decide +kernel)) (
  zcons (zk_iload (pc := 121) (by decide +kernel)) (
  zcons (zk_ishl (pc := 123) (by decide +kernel)) (
  zcons (zk_iconst (pc := 124) (z := (-1)) (by decide) (by decide +kernel)) (
  zcons (zk_ixor (pc := 125) (by decide +kernel)) (
  zcons (zk_iand (pc := 126) (by decide +kernel)) (
  zcons (zk_laload (pc := 127) (by decide +kernel)) (
  zcons (zk_goto (pc := 128) (off := 4) (by decide) (by decide +kernel)) (
  zcons (zk_lconst (pc := 131) (z := 0) (by decide) (by decide +kernel)) (
  zcons (zk_ladd (pc := 132) (by decide +kernel)) (
  zcons (zk_lstore_n (pc := 133) (j := 2) rfl (by decide +kernel)) (
  zcons (zk_iinc (pc := 134) (z := 1) (by decide) (by decide +kernel)) (
  zcons (zk_goto (pc := 137) (off := (-81)) (by decide) (by decide +kernel)) (
  zcons (zk_aload_n (pc := 140) (j := 0) rfl (by decide +kernel)) (
  zcons (zk_getr (pc := 141) (ci := 8) (j := 17) rfl zinX8 (by decide) zw_942 (by decide +kernel)) (
  zcons (zk_iload_n (pc := 144) (j := 1) rfl (by decide +kernel)) (
  zcons (zk_lload_n (pc := 145) (j := 2) rfl (by decide +kernel)) (
  zcons (zk_lastore (pc := 146) (by decide +kernel)) (
  zcons (zk_iinc (pc := 147) (z := 1) (by decide) (by decide +kernel)) (
  zcons (zk_goto (pc := 150) (off := (-136)) (by decide) (by decide +kernel)) (
  zcons (zk_aload_n (pc := 153) (j := 0) rfl (by decide +kernel)) (
  zcons (zk_getr (pc := 154) (ci := 8) (j := 17) rfl zinX8 (by decide) zw_942 (by decide +kernel)) (
  zcons (zk_aload_n (pc := 157) (j := 0) rfl (by decide +kernel)) (
  zcons (zk_cvi (pc := 158) 172 rfl (ci := 8) rfl zw_1100 zw_1102 zsel_X8_on zds_X8_on (by decide) zw_1103 zw_9 (by decide +kernel)) (
  zcons (zk_laload (pc := 161) (by decide +kernel)) (
  zcons (zk_l2i (pc := 162) (by decide +kernel)) (
  zcons (zk_reti (pc := 163) rfl (by decide +kernel)) (znil))))))))))))))))))))))))))))))))))))))))))))))))))))))))))))))))))))))))))))))))))))))))))))))))
def tb_X8_parting : List (Nat × ZP) := [(0, zo_al 0 1), (1, zo_il 1 2), (2, zo_cvi 8 169 1 5), (5, zo_ifeq 30 8), (8, zo_al 0 9), (9, zo_il 2 10), (10, zo_cvi 8 169 1 13), (13, zo_ifeq 30 16), (16, zo_il 1 17), (17, zo_il 2 18), (18, zo_iceq 30 21), (21, zo_il 3 22), (22, zo_i 0 23), (23, zo_i 1 24), (24, zo_csi 143 3 27), (27, zo_ifne 33 30), (30, zo_i (-1000001) 32), (32, zo_reti), (33, zo_al 0 34), (34, zo_cvi 8 172 0 37), (37, zo_il 1 38), (38, zo_csi 144 2 41), (41, zo_ifeq 55 44), (44, zo_al 0 45), (45, zo_cvi 8 172 0 48), (48, zo_il 2 49), (49, zo_csi 144 2 52), (52, zo_ifne 58 55), (55, zo_i (-1000002) 57), (57, zo_reti), (58, zo_i 99 60), (60, zo_is 4 62), (62, zo_i 0 63), (63, zo_is 5 65), (65, zo_i 1 66), (66, zo_is 6 68), (68, zo_il 6 70), (70, zo_i 1 71), (71, zo_al 0 72), (72, zo_getr 8 10 75), (75, zo_i 0 76), (76, zo_iald 77), (77, zo_bin zshl 78), (78, zo_icge 155 81), (81, zo_il 6 83), (83, zo_al 0 84), (84, zo_cvi 8 171 0 87), (87, zo_bin (· &&& ·) 88), (88, zo_ifne 149 91), (91, zo_il 6 93), (93, zo_il 1 94), (94, zo_csi 144 2 97), (97, zo_ifeq 149 100), (100, zo_il 6 102), (102, zo_il 2 103), (103, zo_csi 144 2 106), (106, zo_ifne 149 109), (109, zo_al 0 110), (110, zo_il 6 112), (112, zo_cvi 8 179 1 115), (115, zo_is 7 117), (117, zo_il 7 119), (119, zo_il 4 121), (121, zo_icge 129 124), (124, zo_il 6 126), (126, zo_goto 131), (129, zo_il 5 131), (131, zo_is 5 133), (133, zo_il 7 135), (135, zo_il 4 137), (137, zo_icge 145 140), (140, zo_il 7 142), (142, zo_goto 147), (145, zo_il 4 147), (147, zo_is 4 149), (149, zo_inc 6 1 152), (152, zo_goto 68), (155, zo_il 3 156), (156, zo_ifne 164 159), (159, zo_il 4 161), (161, zo_goto 166), (164, zo_il 5 166), (166, zo_reti)]
def cu_X8_parting : List (Nat × List Bool) := [(68, [true, true, true, true, true, true, true, false])]
set_option maxRecDepth 100000 in
set_option maxHeartbeats 4000000 in
theorem ok_X8_parting : ∀ e ∈ tb_X8_parting, ZOK zmt cX8_parting RX8 1 e.1 e.2 :=
  zcons (zk_aload_n (pc := 0) (j := 0) rfl (by decide +kernel)) (
  zcons (zk_iload_n (pc := 1) (j := 1) rfl (by decide +kernel)) (
  zcons (zk_cvi (pc := 2) 169 rfl (ci := 8) rfl zw_1149 zw_1151 zsel_X8_isCell zds_X8_isCell (by decide) zw_1152 zw_9 (by decide +kernel)) (
  zcons (zk_ifeq (pc := 5) (off := 25) (by decide) (by decide +kernel)) (
  zcons (zk_aload_n (pc := 8) (j := 0) rfl (by decide +kernel)) (
  zcons (zk_iload_n (pc := 9) (j := 2) rfl (by decide +kernel)) (
  zcons (zk_cvi (pc := 10) 169 rfl (ci := 8) rfl zw_1149 zw_1151 zsel_X8_isCell zds_X8_isCell (by decide) zw_1152 zw_9 (by decide +kernel)) (
  zcons (zk_ifeq (pc := 13) (off := 17) (by decide) (by decide +kernel)) (
  zcons (zk_iload_n (pc := 16) (j := 1) rfl (by decide +kernel)) (
  zcons (zk_iload_n (pc := 17) (j := 2) rfl (by decide +kernel)) (
  zcons (zk_iceq (pc := 18) (off := 12) (by decide) (by decide +kernel)) (
  zcons (zk_iload_n (pc := 21) (j := 3) rfl (by decide +kernel)) (
  zcons (zk_iconst (pc := 22) (z := 0) (by decide) (by decide +kernel)) (
  zcons (zk_iconst (pc := 23) (z := 1) (by decide) (by decide +kernel)) (
  zcons (zk_csi (pc := 24) 143 rfl zw_1002 zw_1003 zds_X8_in (by decide) zw_1004 zw_9 (by decide +kernel)) (
  zcons (zk_ifne (pc := 27) (off := 6) (by decide) (by decide +kernel)) (
  zcons (zk_ldc (pc := 30) zw_1005 (by decide +kernel)) (
  zcons (zk_reti (pc := 32) rfl (by decide +kernel)) (
  zcons (zk_aload_n (pc := 33) (j := 0) rfl (by decide +kernel)) (
  zcons (zk_cvi (pc := 34) 172 rfl (ci := 8) rfl zw_1100 zw_1102 zsel_X8_on zds_X8_on (by decide) zw_1103 zw_9 (by decide +kernel)) (
  zcons (zk_iload_n (pc := 37) (j := 1) rfl (by decide +kernel)) (
  zcons (zk_csi (pc := 38) 144 rfl zw_1115 zw_1116 zds_X8_has (by decide) zw_1117 zw_9 (by decide +kernel)) (
  zcons (zk_ifeq (pc := 41) (off := 14) (by decide) (by decide +kernel)) (
  zcons (zk_aload_n (pc := 44) (j := 0) rfl (by decide +kernel)) (
  zcons (zk_cvi (pc := 45) 172 rfl (ci := 8) rfl zw_1100 zw_1102 zsel_X8_on zds_X8_on (by decide) zw_1103 zw_9 (by decide +kernel)) (
  zcons (zk_iload_n (pc := 48) (j := 2) rfl (by decide +kernel)) (
  zcons (zk_csi (pc := 49) 144 rfl zw_1115 zw_1116 zds_X8_has (by decide) zw_1117 zw_9 (by decide +kernel)) (
  zcons (zk_ifne (pc := 52) (off := 6) (by decide) (by decide +kernel)) (
  zcons (zk_ldc (pc := 55) zw_1087 (by decide +kernel)) (
  zcons (zk_reti (pc := 57) rfl (by decide +kernel)) (
  zcons (zk_bipush (pc := 58) (z := 99) (by decide) (by decide +kernel)) (
  zcons (zk_istore (pc := 60) (by decide +kernel)) (
  zcons (zk_iconst (pc := 62) (z := 0) (by decide) (by decide +kernel)) (
  zcons (zk_istore (pc := 63) (by decide +kernel)) (
  zcons (zk_iconst (pc := 65) (z := 1) (by decide) (by decide +kernel)) (
  zcons (zk_istore (pc := 66) (by decide +kernel)) (
  zcons (zk_iload (pc := 68) (by decide +kernel)) (
  zcons (zk_iconst (pc := 70) (z := 1) (by decide) (by decide +kernel)) (
  zcons (zk_aload_n (pc := 71) (j := 0) rfl (by decide +kernel)) (
  zcons (zk_getr (pc := 72) (ci := 8) (j := 10) rfl zinX8 (by decide) zw_935 (by decide +kernel)) (
  zcons (zk_iconst (pc := 75) (z := 0) (by decide) (by decide +kernel)) (
  zcons (zk_iaload (pc := 76) (by decide +kernel)) (
  zcons (zk_ishl (pc := 77) (by decide +kernel)) (
  zcons (zk_icge (pc := 78) (off := 77) (by decide) (by decide +kernel)) (
  zcons (zk_iload (pc := 81) (by decide +kernel)) (
  zcons (zk_aload_n (pc := 83) (j := 0) rfl (by decide +kernel)) (
  zcons (zk_cvi (pc := 84) 171 rfl (ci := 8) rfl zw_1104 zw_1106 zsel_X8_gone zds_X8_gone (by decide) zw_1107 zw_9 (by decide +kernel)) (
  zcons (zk_iand (pc := 87) (by decide +kernel)) (
  zcons (zk_ifne (pc := 88) (off := 61) (by decide) (by decide +kernel)) (
  zcons (zk_iload (pc := 91) (by decide +kernel)) (
  zcons (zk_iload_n (pc := 93) (j := 1) rfl (by decide +kernel)) (
  zcons (zk_csi (pc := 94) 144 rfl zw_1115 zw_1116 zds_X8_has (by decide) zw_1117 zw_9 (by decide +kernel)) (
  zcons (zk_ifeq (pc := 97) (off := 52) (by decide) (by decide +kernel)) (
  zcons (zk_iload (pc := 100) (by decide +kernel)) (
  zcons (zk_iload_n (pc := 102) (j := 2) rfl (by decide +kernel)) (
  zcons (zk_csi (pc := 103) 144 rfl zw_1115 zw_1116 zds_X8_has (by decide) zw_1117 zw_9 (by decide +kernel)) (
  zcons (zk_ifne (pc := 106) (off := 43) (by decide) (by decide +kernel)) (
  zcons (zk_aload_n (pc := 109) (j := 0) rfl (by decide +kernel)) (
  zcons (zk_iload (pc := 110) (by decide +kernel)) (
  zcons (zk_cvi (pc := 112) 179 rfl (ci := 8) rfl zw_1133 zw_1135 zsel_X8_tears zds_X8_tears (by decide) zw_1136 zw_9 (by decide +kernel)) (
  zcons (zk_istore (pc := 115) (by decide +kernel)) (
  zcons (zk_iload (pc := 117) (by decide +kernel)) (
  zcons (zk_iload (pc := 119) (by decide +kernel)) (
  zcons (zk_icge (pc := 121) (off := 8) (by decide) (by decide +kernel)) (
  zcons (zk_iload (pc := 124) (by decide +kernel)) (
  zcons (zk_goto (pc := 126) (off := 5) (by decide) (by decide +kernel)) (
  zcons (zk_iload (pc := 129) (by decide +kernel)) (
  zcons (zk_istore (pc := 131) (by decide +kernel)) (
  zcons (zk_iload (pc := 133) (by decide +kernel)) (
  zcons (zk_iload (pc := 135) (by decide +kernel)) (
  zcons (zk_icge (pc := 137) (off := 8) (by decide) (by decide +kernel)) (
  zcons (zk_iload (pc := 140) (by decide +kernel)) (
  zcons (zk_goto (pc := 142) (off := 5) (by decide) (by decide +kernel)) (
  zcons (zk_iload (pc := 145) (by decide +kernel)) (
  zcons (zk_istore (pc := 147) (by decide +kernel)) (
  zcons (zk_iinc (pc := 149) (z := 1) (by decide) (by decide +kernel)) (
  zcons (zk_goto (pc := 152) (off := (-84)) (by decide) (by decide +kernel)) (
  zcons (zk_iload_n (pc := 155) (j := 3) rfl (by decide +kernel)) (
  zcons (zk_ifne (pc := 156) (off := 8) (by decide) (by decide +kernel)) (
  zcons (zk_iload (pc := 159) (by decide +kernel)) (
  zcons (zk_goto (pc := 161) (off := 5) (by decide) (by decide +kernel)) (
  zcons (zk_iload (pc := 164) (by decide +kernel)) (
  zcons (zk_reti (pc := 166) rfl (by decide +kernel)) (znil)))))))))))))))))))))))))))))))))))))))))))))))))))))))))))))))))))))))))))))))))))
def tb_X8_stepsOf : List (Nat × ZP) := [(0, zo_i 1 1), (1, zo_il 1 2), (2, zo_bin zshl 3), (3, zo_is 3 4), (4, zo_i 0 5), (5, zo_is 4 7), (7, zo_il 4 9), (9, zo_i 10 11), (11, zo_icge 87 14), (14, zo_il 3 15), (15, zo_il 2 16), (16, zo_csi 144 2 19), (19, zo_ifeq 25 22), (22, zo_il 4 24), (24, zo_reti), (25, zo_il 3 26), (26, zo_is 5 28), (28, zo_i 0 29), (29, zo_is 6 31), (31, zo_il 6 33), (33, zo_al 0 34), (34, zo_getr 8 10 37), (37, zo_i 0 38), (38, zo_iald 39), (39, zo_icge 78 42), (42, zo_il 5 44), (44, zo_il 3 45), (45, zo_il 6 47), (47, zo_csi 144 2 50), (50, zo_ifeq 68 53), (53, zo_al 0 54), (54, zo_getr 8 12 57), (57, zo_il 6 59), (59, zo_iald 60), (60, zo_al 0 61), (61, zo_cvi 8 172 0 64), (64, zo_bin (· &&& ·) 65), (65, zo_goto 69), (68, zo_i 0 69), (69, zo_bin (· ||| ·) 70), (70, zo_is 5 72), (72, zo_inc 6 1 75), (75, zo_goto 31), (78, zo_il 5 80), (80, zo_is 3 81), (81, zo_inc 4 1 84), (84, zo_goto 7), (87, zo_i 99 89), (89, zo_reti)]
def cu_X8_stepsOf : List (Nat × List Bool) := [(7, [true, false, true, true, true, false, false]), (31, [true, false, true, true, true, true, true])]
set_option maxRecDepth 100000 in
set_option maxHeartbeats 4000000 in
theorem ok_X8_stepsOf : ∀ e ∈ tb_X8_stepsOf, ZOK zmt cX8_stepsOf RX8 1 e.1 e.2 :=
  zcons (zk_iconst (pc := 0) (z := 1) (by decide) (by decide +kernel)) (
  zcons (zk_iload_n (pc := 1) (j := 1) rfl (by decide +kernel)) (
  zcons (zk_ishl (pc := 2) (by decide +kernel)) (
  zcons (zk_istore_n (pc := 3) (j := 3) rfl (by decide +kernel)) (
  zcons (zk_iconst (pc := 4) (z := 0) (by decide) (by decide +kernel)) (
  zcons (zk_istore (pc := 5) (by decide +kernel)) (
  zcons (zk_iload (pc := 7) (by decide +kernel)) (
  zcons (zk_bipush (pc := 9) (z := 10) (by decide) (by decide +kernel)) (
  zcons (zk_icge (pc := 11) (off := 76) (by decide) (by decide +kernel)) (
  zcons (zk_iload_n (pc := 14) (j := 3) rfl (by decide +kernel)) (
  zcons (zk_iload_n (pc := 15) (j := 2) rfl (by decide +kernel)) (
  zcons (zk_csi (pc := 16) 144 rfl zw_1115 zw_1116 zds_X8_has (by decide) zw_1117 zw_9 (by decide +kernel)) (
  zcons (zk_ifeq (pc := 19) (off := 6) (by decide) (by decide +kernel)) (
  zcons (zk_iload (pc := 22) (by decide +kernel)) (
  zcons (zk_reti (pc := 24) rfl (by decide +kernel)) (
  zcons (zk_iload_n (pc := 25) (j := 3) rfl (by decide +kernel)) (
  zcons (zk_istore (pc := 26) (by decide +kernel)) (
  zcons (zk_iconst (pc := 28) (z := 0) (by decide) (by decide +kernel)) (
  zcons (zk_istore (pc := 29) (by decide +kernel)) (
  zcons (zk_iload (pc := 31) (by decide +kernel)) (
  zcons (zk_aload_n (pc := 33) (j := 0) rfl (by decide +kernel)) (
  zcons (zk_getr (pc := 34) (ci := 8) (j := 10) rfl zinX8 (by decide) zw_935 (by decide +kernel)) (
  zcons (zk_iconst (pc := 37) (z := 0) (by decide) (by decide +kernel)) (
  zcons (zk_iaload (pc := 38) (by decide +kernel)) (
  zcons (zk_icge (pc := 39) (off := 39) (by decide) (by decide +kernel)) (
  zcons (zk_iload (pc := 42) (by decide +kernel)) (
  zcons (zk_iload_n (pc := 44) (j := 3) rfl (by decide +kernel)) (
  zcons (zk_iload (pc := 45) (by decide +kernel)) (
  zcons (zk_csi (pc := 47) 144 rfl zw_1115 zw_1116 zds_X8_has (by decide) zw_1117 zw_9 (by decide +kernel)) (
  zcons (zk_ifeq (pc := 50) (off := 18) (by decide) (by decide +kernel)) (
  zcons (zk_aload_n (pc := 53) (j := 0) rfl (by decide +kernel)) (
  zcons (zk_getr (pc := 54) (ci := 8) (j := 12) rfl zinX8 (by decide) zw_937 (by decide +kernel)) (
  zcons (zk_iload (pc := 57) (by decide +kernel)) (
  zcons (zk_iaload (pc := 59) (by decide +kernel)) (
  zcons (zk_aload_n (pc := 60) (j := 0) rfl (by decide +kernel)) (
  zcons (zk_cvi (pc := 61) 172 rfl (ci := 8) rfl zw_1100 zw_1102 zsel_X8_on zds_X8_on (by decide) zw_1103 zw_9 (by decide +kernel)) (
  zcons (zk_iand (pc := 64) (by decide +kernel)) (
  zcons (zk_goto (pc := 65) (off := 4) (by decide) (by decide +kernel)) (
  zcons (zk_iconst (pc := 68) (z := 0) (by decide) (by decide +kernel)) (
  zcons (zk_ior (pc := 69) (by decide +kernel)) (
  zcons (zk_istore (pc := 70) (by decide +kernel)) (
  zcons (zk_iinc (pc := 72) (z := 1) (by decide) (by decide +kernel)) (
  zcons (zk_goto (pc := 75) (off := (-44)) (by decide) (by decide +kernel)) (
  zcons (zk_iload (pc := 78) (by decide +kernel)) (
  zcons (zk_istore_n (pc := 80) (j := 3) rfl (by decide +kernel)) (
  zcons (zk_iinc (pc := 81) (z := 1) (by decide) (by decide +kernel)) (
  zcons (zk_goto (pc := 84) (off := (-77)) (by decide) (by decide +kernel)) (
  zcons (zk_bipush (pc := 87) (z := 99) (by decide) (by decide +kernel)) (
  zcons (zk_reti (pc := 89) rfl (by decide +kernel)) (znil)))))))))))))))))))))))))))))))))))))))))))))))))
def tb_X8_way : List (Nat × ZP) := [(0, zo_al 0 1), (1, zo_il 1 2), (2, zo_cvi 8 169 1 5), (5, zo_ifeq 30 8), (8, zo_al 0 9), (9, zo_il 2 10), (10, zo_cvi 8 169 1 13), (13, zo_ifeq 30 16), (16, zo_il 1 17), (17, zo_il 2 18), (18, zo_iceq 30 21), (21, zo_il 3 22), (22, zo_i 0 23), (23, zo_i 1 24), (24, zo_csi 143 3 27), (27, zo_ifne 33 30), (30, zo_i (-1000001) 32), (32, zo_reti), (33, zo_al 0 34), (34, zo_cvi 8 172 0 37), (37, zo_il 1 38), (38, zo_csi 144 2 41), (41, zo_ifeq 55 44), (44, zo_al 0 45), (45, zo_cvi 8 172 0 48), (48, zo_il 2 49), (49, zo_csi 144 2 52), (52, zo_ifne 58 55), (55, zo_i (-1000002) 57), (57, zo_reti), (58, zo_al 0 59), (59, zo_il 1 60), (60, zo_il 2 61), (61, zo_cvi 8 209 2 64), (64, zo_is 4 66), (66, zo_il 4 68), (68, zo_i 99 70), (70, zo_iceq 77 73), (73, zo_il 3 74), (74, zo_ifne 92 77), (77, zo_il 4 79), (79, zo_i 99 81), (81, zo_icne 89 84), (84, zo_i (-1000000) 86), (86, zo_goto 91), (89, zo_il 4 91), (91, zo_reti), (92, zo_i 0 93), (93, zo_is 5 95), (95, zo_al 0 96), (96, zo_getr 8 12 99), (99, zo_il 1 100), (100, zo_iald 101), (101, zo_al 0 102), (102, zo_cvi 8 172 0 105), (105, zo_bin (· &&& ·) 106), (106, zo_il 5 108), (108, zo_csi 144 2 111), (111, zo_ifeq 128 114), (114, zo_al 0 115), (115, zo_il 5 117), (117, zo_il 2 118), (118, zo_cvi 8 209 2 121), (121, zo_il 4 123), (123, zo_i 1 124), (124, zo_bin (· - ·) 125), (125, zo_iceq 134 128), (128, zo_inc 5 1 131), (131, zo_goto 95), (134, zo_il 5 136), (136, zo_reti)]
def cu_X8_way : List (Nat × List Bool) := [(95, [true, true, true, false, true, true])]
set_option maxRecDepth 100000 in
set_option maxHeartbeats 4000000 in
theorem ok_X8_way : ∀ e ∈ tb_X8_way, ZOK zmt cX8_way RX8 1 e.1 e.2 :=
  zcons (zk_aload_n (pc := 0) (j := 0) rfl (by decide +kernel)) (
  zcons (zk_iload_n (pc := 1) (j := 1) rfl (by decide +kernel)) (
  zcons (zk_cvi (pc := 2) 169 rfl (ci := 8) rfl zw_1149 zw_1151 zsel_X8_isCell zds_X8_isCell (by decide) zw_1152 zw_9 (by decide +kernel)) (
  zcons (zk_ifeq (pc := 5) (off := 25) (by decide) (by decide +kernel)) (
  zcons (zk_aload_n (pc := 8) (j := 0) rfl (by decide +kernel)) (
  zcons (zk_iload_n (pc := 9) (j := 2) rfl (by decide +kernel)) (
  zcons (zk_cvi (pc := 10) 169 rfl (ci := 8) rfl zw_1149 zw_1151 zsel_X8_isCell zds_X8_isCell (by decide) zw_1152 zw_9 (by decide +kernel)) (
  zcons (zk_ifeq (pc := 13) (off := 17) (by decide) (by decide +kernel)) (
  zcons (zk_iload_n (pc := 16) (j := 1) rfl (by decide +kernel)) (
  zcons (zk_iload_n (pc := 17) (j := 2) rfl (by decide +kernel)) (
  zcons (zk_iceq (pc := 18) (off := 12) (by decide) (by decide +kernel)) (
  zcons (zk_iload_n (pc := 21) (j := 3) rfl (by decide +kernel)) (
  zcons (zk_iconst (pc := 22) (z := 0) (by decide) (by decide +kernel)) (
  zcons (zk_iconst (pc := 23) (z := 1) (by decide) (by decide +kernel)) (
  zcons (zk_csi (pc := 24) 143 rfl zw_1002 zw_1003 zds_X8_in (by decide) zw_1004 zw_9 (by decide +kernel)) (
  zcons (zk_ifne (pc := 27) (off := 6) (by decide) (by decide +kernel)) (
  zcons (zk_ldc (pc := 30) zw_1005 (by decide +kernel)) (
  zcons (zk_reti (pc := 32) rfl (by decide +kernel)) (
  zcons (zk_aload_n (pc := 33) (j := 0) rfl (by decide +kernel)) (
  zcons (zk_cvi (pc := 34) 172 rfl (ci := 8) rfl zw_1100 zw_1102 zsel_X8_on zds_X8_on (by decide) zw_1103 zw_9 (by decide +kernel)) (
  zcons (zk_iload_n (pc := 37) (j := 1) rfl (by decide +kernel)) (
  zcons (zk_csi (pc := 38) 144 rfl zw_1115 zw_1116 zds_X8_has (by decide) zw_1117 zw_9 (by decide +kernel)) (
  zcons (zk_ifeq (pc := 41) (off := 14) (by decide) (by decide +kernel)) (
  zcons (zk_aload_n (pc := 44) (j := 0) rfl (by decide +kernel)) (
  zcons (zk_cvi (pc := 45) 172 rfl (ci := 8) rfl zw_1100 zw_1102 zsel_X8_on zds_X8_on (by decide) zw_1103 zw_9 (by decide +kernel)) (
  zcons (zk_iload_n (pc := 48) (j := 2) rfl (by decide +kernel)) (
  zcons (zk_csi (pc := 49) 144 rfl zw_1115 zw_1116 zds_X8_has (by decide) zw_1117 zw_9 (by decide +kernel)) (
  zcons (zk_ifne (pc := 52) (off := 6) (by decide) (by decide +kernel)) (
  zcons (zk_ldc (pc := 55) zw_1087 (by decide +kernel)) (
  zcons (zk_reti (pc := 57) rfl (by decide +kernel)) (
  zcons (zk_aload_n (pc := 58) (j := 0) rfl (by decide +kernel)) (
  zcons (zk_iload_n (pc := 59) (j := 1) rfl (by decide +kernel)) (
  zcons (zk_iload_n (pc := 60) (j := 2) rfl (by decide +kernel)) (
  zcons (zk_cvi (pc := 61) 209 rfl (ci := 8) rfl zw_1263 zw_1265 zsel_X8_stepsOf zds_X8_stepsOf (by decide) zw_1266 zw_9 (by decide +kernel)) (
  zcons (zk_istore (pc := 64) (by decide +kernel)) (
  zcons (zk_iload (pc := 66) (by decide +kernel)) (
  zcons (zk_bipush (pc := 68) (z := 99) (by decide) (by decide +kernel)) (
  zcons (zk_iceq (pc := 70) (off := 7) (by decide) (by decide +kernel)) (
  zcons (zk_iload_n (pc := 73) (j := 3) rfl (by decide +kernel)) (
  zcons (zk_ifne (pc := 74) (off := 18) (by decide) (by decide +kernel)) (
  zcons (zk_iload (pc := 77) (by decide +kernel)) (
  zcons (zk_bipush (pc := 79) (z := 99) (by decide) (by decide +kernel)) (
  zcons (zk_icne (pc := 81) (off := 8) (by decide) (by decide +kernel)) (
  zcons (zk_ldc (pc := 84) zw_1169 (by decide +kernel)) (
  zcons (zk_goto (pc := 86) (off := 5) (by decide) (by decide +kernel)) (
  zcons (zk_iload (pc := 89) (by decide +kernel)) (
  zcons (zk_reti (pc := 91) rfl (by decide +kernel)) (
  zcons (zk_iconst (pc := 92) (z := 0) (by decide) (by decide +kernel)) (
  zcons (zk_istore (pc := 93) (by decide +kernel)) (
  zcons (zk_aload_n (pc := 95) (j := 0) rfl (by decide +kernel)) (
  zcons (zk_getr (pc := 96) (ci := 8) (j := 12) rfl zinX8 (by decide) zw_937 (by decide +kernel)) (
  zcons (zk_iload_n (pc := 99) (j := 1) rfl (by decide +kernel)) (
  zcons (zk_iaload (pc := 100) (by decide +kernel)) (
  zcons (zk_aload_n (pc := 101) (j := 0) rfl (by decide +kernel)) (
  zcons (zk_cvi (pc := 102) 172 rfl (ci := 8) rfl zw_1100 zw_1102 zsel_X8_on zds_X8_on (by decide) zw_1103 zw_9 (by decide +kernel)) (
  zcons (zk_iand (pc := 105) (by decide +kernel)) (
  zcons (zk_iload (pc := 106) (by decide +kernel)) (
  zcons (zk_csi (pc := 108) 144 rfl zw_1115 zw_1116 zds_X8_has (by decide) zw_1117 zw_9 (by decide +kernel)) (
  zcons (zk_ifeq (pc := 111) (off := 17) (by decide) (by decide +kernel)) (
  zcons (zk_aload_n (pc := 114) (j := 0) rfl (by decide +kernel)) (
  zcons (zk_iload (pc := 115) (by decide +kernel)) (
  zcons (zk_iload_n (pc := 117) (j := 2) rfl (by decide +kernel)) (
  zcons (zk_cvi (pc := 118) 209 rfl (ci := 8) rfl zw_1263 zw_1265 zsel_X8_stepsOf zds_X8_stepsOf (by decide) zw_1266 zw_9 (by decide +kernel)) (
  zcons (zk_iload (pc := 121) (by decide +kernel)) (
  zcons (zk_iconst (pc := 123) (z := 1) (by decide) (by decide +kernel)) (
  zcons (zk_isub (pc := 124) (by decide +kernel)) (
  zcons (zk_iceq (pc := 125) (off := 9) (by decide) (by decide +kernel)) (
  zcons (zk_iinc (pc := 128) (z := 1) (by decide) (by decide +kernel)) (
  zcons (zk_goto (pc := 131) (off := (-36)) (by decide) (by decide +kernel)) (
  zcons (zk_iload (pc := 134) (by decide +kernel)) (
  zcons (zk_reti (pc := 136) rfl (by decide +kernel)) (znil)))))))))))))))))))))))))))))))))))))))))))))))))))))))))))))))))))))))
def tb_X8_lone : List (Nat × ZP) := [(0, zo_al 0 1), (1, zo_getr 8 10 4), (4, zo_i 0 5), (5, zo_iald 6), (6, zo_ifne 12 9), (9, zo_i (-1000002) 11), (11, zo_reti), (12, zo_al 0 13), (13, zo_al 0 14), (14, zo_cvi 8 172 0 17), (17, zo_cvi 8 191 1 20), (20, zo_is 1 21), (21, zo_i 0 22), (22, zo_is 2 23), (23, zo_i 0 24), (24, zo_is 3 25), (25, zo_il 3 26), (26, zo_al 0 27), (27, zo_getr 8 10 30), (30, zo_i 0 31), (31, zo_iald 32), (32, zo_icge 80 35), (35, zo_il 2 36), (36, zo_al 0 37), (37, zo_cvi 8 172 0 40), (40, zo_il 3 41), (41, zo_csi 144 2 44), (44, zo_ifeq 71 47), (47, zo_al 0 48), (48, zo_al 0 49), (49, zo_cvi 8 172 0 52), (52, zo_i 1 53), (53, zo_il 3 54), (54, zo_bin zshl 55), (55, zo_i (-1) 56), (56, zo_bin (· ^^^ ·) 57), (57, zo_bin (· &&& ·) 58), (58, zo_cvi 8 191 1 61), (61, zo_il 1 62), (62, zo_icle 71 65), (65, zo_i 1 66), (66, zo_il 3 67), (67, zo_bin zshl 68), (68, zo_goto 72), (71, zo_i 0 72), (72, zo_bin (· ||| ·) 73), (73, zo_is 2 74), (74, zo_inc 3 1 77), (77, zo_goto 25), (80, zo_il 2 81), (81, zo_reti)]
def cu_X8_lone : List (Nat × List Bool) := [(25, [true, true, true, true])]
set_option maxRecDepth 100000 in
set_option maxHeartbeats 4000000 in
theorem ok_X8_lone : ∀ e ∈ tb_X8_lone, ZOK zmt cX8_lone RX8 1 e.1 e.2 :=
  zcons (zk_aload_n (pc := 0) (j := 0) rfl (by decide +kernel)) (
  zcons (zk_getr (pc := 1) (ci := 8) (j := 10) rfl zinX8 (by decide) zw_935 (by decide +kernel)) (
  zcons (zk_iconst (pc := 4) (z := 0) (by decide) (by decide +kernel)) (
  zcons (zk_iaload (pc := 5) (by decide +kernel)) (
  zcons (zk_ifne (pc := 6) (off := 6) (by decide) (by decide +kernel)) (
  zcons (zk_ldc (pc := 9) zw_1087 (by decide +kernel)) (
  zcons (zk_reti (pc := 11) rfl (by decide +kernel)) (
  zcons (zk_aload_n (pc := 12) (j := 0) rfl (by decide +kernel)) (
  zcons (zk_aload_n (pc := 13) (j := 0) rfl (by decide +kernel)) (
  zcons (zk_cvi (pc := 14) 172 rfl (ci := 8) rfl zw_1100 zw_1102 zsel_X8_on zds_X8_on (by decide) zw_1103 zw_9 (by decide +kernel)) (
  zcons (zk_cvi (pc := 17) 191 rfl (ci := 8) rfl zw_1186 zw_1188 zsel_X8_manyParts zds_X8_manyParts (by decide) zw_1189 zw_9 (by decide +kernel)) (
  zcons (zk_istore_n (pc := 20) (j := 1) rfl (by decide +kernel)) (
  zcons (zk_iconst (pc := 21) (z := 0) (by decide) (by decide +kernel)) (
  zcons (zk_istore_n (pc := 22) (j := 2) rfl (by decide +kernel)) (
  zcons (zk_iconst (pc := 23) (z := 0) (by decide) (by decide +kernel)) (
  zcons (zk_istore_n (pc := 24) (j := 3) rfl (by decide +kernel)) (
  zcons (zk_iload_n (pc := 25) (j := 3) rfl (by decide +kernel)) (
  zcons (zk_aload_n (pc := 26) (j := 0) rfl (by decide +kernel)) (
  zcons (zk_getr (pc := 27) (ci := 8) (j := 10) rfl zinX8 (by decide) zw_935 (by decide +kernel)) (
  zcons (zk_iconst (pc := 30) (z := 0) (by decide) (by decide +kernel)) (
  zcons (zk_iaload (pc := 31) (by decide +kernel)) (
  zcons (zk_icge (pc := 32) (off := 48) (by decide) (by decide +kernel)) (
  zcons (zk_iload_n (pc := 35) (j := 2) rfl (by decide +kernel)) (
  zcons (zk_aload_n (pc := 36) (j := 0) rfl (by decide +kernel)) (
  zcons (zk_cvi (pc := 37) 172 rfl (ci := 8) rfl zw_1100 zw_1102 zsel_X8_on zds_X8_on (by decide) zw_1103 zw_9 (by decide +kernel)) (
  zcons (zk_iload_n (pc := 40) (j := 3) rfl (by decide +kernel)) (
  zcons (zk_csi (pc := 41) 144 rfl zw_1115 zw_1116 zds_X8_has (by decide) zw_1117 zw_9 (by decide +kernel)) (
  zcons (zk_ifeq (pc := 44) (off := 27) (by decide) (by decide +kernel)) (
  zcons (zk_aload_n (pc := 47) (j := 0) rfl (by decide +kernel)) (
  zcons (zk_aload_n (pc := 48) (j := 0) rfl (by decide +kernel)) (
  zcons (zk_cvi (pc := 49) 172 rfl (ci := 8) rfl zw_1100 zw_1102 zsel_X8_on zds_X8_on (by decide) zw_1103 zw_9 (by decide +kernel)) (
  zcons (zk_iconst (pc := 52) (z := 1) (by decide) (by decide +kernel)) (
  zcons (zk_iload_n (pc := 53) (j := 3) rfl (by decide +kernel)) (
  zcons (zk_ishl (pc := 54) (by decide +kernel)) (
  zcons (zk_iconst (pc := 55) (z := (-1)) (by decide) (by decide +kernel)) (
  zcons (zk_ixor (pc := 56) (by decide +kernel)) (
  zcons (zk_iand (pc := 57) (by decide +kernel)) (
  zcons (zk_cvi (pc := 58) 191 rfl (ci := 8) rfl zw_1186 zw_1188 zsel_X8_manyParts zds_X8_manyParts (by decide) zw_1189 zw_9 (by decide +kernel)) (
  zcons (zk_iload_n (pc := 61) (j := 1) rfl (by decide +kernel)) (
  zcons (zk_icle (pc := 62) (off := 9) (by decide) (by decide +kernel)) (
  zcons (zk_iconst (pc := 65) (z := 1) (by decide) (by decide +kernel)) (
  zcons (zk_iload_n (pc := 66) (j := 3) rfl (by decide +kernel)) (
  zcons (zk_ishl (pc := 67) (by decide +kernel)) (
  zcons (zk_goto (pc := 68) (off := 4) (by decide) (by decide +kernel)) (
  zcons (zk_iconst (pc := 71) (z := 0) (by decide) (by decide +kernel)) (
  zcons (zk_ior (pc := 72) (by decide +kernel)) (
  zcons (zk_istore_n (pc := 73) (j := 2) rfl (by decide +kernel)) (
  zcons (zk_iinc (pc := 74) (z := 1) (by decide) (by decide +kernel)) (
  zcons (zk_goto (pc := 77) (off := (-52)) (by decide) (by decide +kernel)) (
  zcons (zk_iload_n (pc := 80) (j := 2) rfl (by decide +kernel)) (
  zcons (zk_reti (pc := 81) rfl (by decide +kernel)) (znil)))))))))))))))))))))))))))))))))))))))))))))))))))
def tb_X8_findingOf : List (Nat × ZP) := [(0, zo_al 0 1), (1, zo_getr 8 1 4), (4, zo_il 1 5), (5, zo_iald 6), (6, zo_ifge 11 9), (9, zo_i 1 10), (10, zo_reti), (11, zo_al 0 12), (12, zo_il 1 13), (13, zo_il 2 14), (14, zo_il 5 16), (16, zo_cvi 8 150 3 19), (19, zo_ifne 24 22), (22, zo_i 2 23), (23, zo_reti), (24, zo_i 0 25), (25, zo_is 6 27), (27, zo_i 0 28), (28, zo_is 7 30), (30, zo_il 7 32), (32, zo_il 5 34), (34, zo_icge 89 37), (37, zo_al 0 38), (38, zo_getr 8 2 41), (41, zo_i 40 43), (43, zo_il 1 44), (44, zo_bin (· * ·) 45), (45, zo_il 2 46), (46, zo_bin (· + ·) 47), (47, zo_il 7 49), (49, zo_bin (· + ·) 50), (50, zo_iald 51), (51, zo_is 8 53), (53, zo_al 0 54), (54, zo_il 8 56), (56, zo_cvi 8 169 1 59), (59, zo_ifeq 72 62), (62, zo_il 6 64), (64, zo_il 8 66), (66, zo_csi 144 2 69), (69, zo_ifeq 74 72), (72, zo_i 3 73), (73, zo_reti), (74, zo_il 6 76), (76, zo_i 1 77), (77, zo_il 8 79), (79, zo_bin zshl 80), (80, zo_bin (· ||| ·) 81), (81, zo_is 6 83), (83, zo_inc 7 1 86), (86, zo_goto 30), (89, zo_al 0 90), (90, zo_getr 8 1 93), (93, zo_il 3 94), (94, zo_iald 95), (95, zo_ifge 102 98), (98, zo_i 1 99), (99, zo_goto 119), (102, zo_al 0 103), (103, zo_il 3 104), (104, zo_il 4 106), (106, zo_il 5 108), (108, zo_cvi 8 150 3 111), (111, zo_ifeq 118 114), (114, zo_i 0 115), (115, zo_goto 119), (118, zo_i 2 119), (119, zo_reti)]
def cu_X8_findingOf : List (Nat × List Bool) := [(30, [true, true, true, true, true, true, true, true, false])]
set_option maxRecDepth 100000 in
set_option maxHeartbeats 4000000 in
theorem ok_X8_findingOf : ∀ e ∈ tb_X8_findingOf, ZOK zmt cX8_findingOf RX8 1 e.1 e.2 :=
  zcons (zk_aload_n (pc := 0) (j := 0) rfl (by decide +kernel)) (
  zcons (zk_getr (pc := 1) (ci := 8) (j := 1) rfl zinX8 (by decide) zw_926 (by decide +kernel)) (
  zcons (zk_iload_n (pc := 4) (j := 1) rfl (by decide +kernel)) (
  zcons (zk_iaload (pc := 5) (by decide +kernel)) (
  zcons (zk_ifge (pc := 6) (off := 5) (by decide) (by decide +kernel)) (
  zcons (zk_iconst (pc := 9) (z := 1) (by decide) (by decide +kernel)) (
  zcons (zk_reti (pc := 10) rfl (by decide +kernel)) (
  zcons (zk_aload_n (pc := 11) (j := 0) rfl (by decide +kernel)) (
  zcons (zk_iload_n (pc := 12) (j := 1) rfl (by decide +kernel)) (
  zcons (zk_iload_n (pc := 13) (j := 2) rfl (by decide +kernel)) (
  zcons (zk_iload (pc := 14) (by decide +kernel)) (
  zcons (zk_cvi (pc := 16) 150 rfl (ci := 8) rfl zw_1019 zw_1021 zsel_X8_isPlace zds_X8_isPlace (by decide) zw_1022 zw_9 (by decide +kernel)) (
  zcons (zk_ifne (pc := 19) (off := 5) (by decide) (by decide +kernel)) (
  zcons (zk_iconst (pc := 22) (z := 2) (by decide) (by decide +kernel)) (
  zcons (zk_reti (pc := 23) rfl (by decide +kernel)) (
  zcons (zk_iconst (pc := 24) (z := 0) (by decide) (by decide +kernel)) (
  zcons (zk_istore (pc := 25) (by decide +kernel)) (
  zcons (zk_iconst (pc := 27) (z := 0) (by decide) (by decide +kernel)) (
  zcons (zk_istore (pc := 28) (by decide +kernel)) (
  zcons (zk_iload (pc := 30) (by decide +kernel)) (
  zcons (zk_iload (pc := 32) (by decide +kernel)) (
  zcons (zk_icge (pc := 34) (off := 55) (by decide) (by decide +kernel)) (
  zcons (zk_aload_n (pc := 37) (j := 0) rfl (by decide +kernel)) (
  zcons (zk_getr (pc := 38) (ci := 8) (j := 2) rfl zinX8 (by decide) zw_927 (by decide +kernel)) (
  zcons (zk_bipush (pc := 41) (z := 40) (by decide) (by decide +kernel)) (
  zcons (zk_iload_n (pc := 43) (j := 1) rfl (by decide +kernel)) (
  zcons (zk_imul (pc := 44) (by decide +kernel)) (
  zcons (zk_iload_n (pc := 45) (j := 2) rfl (by decide +kernel)) (
  zcons (zk_iadd (pc := 46) (by decide +kernel)) (
  zcons (zk_iload (pc := 47) (by decide +kernel)) (
  zcons (zk_iadd (pc := 49) (by decide +kernel)) (
  zcons (zk_iaload (pc := 50) (by decide +kernel)) (
  zcons (zk_istore (pc := 51) (by decide +kernel)) (
  zcons (zk_aload_n (pc := 53) (j := 0) rfl (by decide +kernel)) (
  zcons (zk_iload (pc := 54) (by decide +kernel)) (
  zcons (zk_cvi (pc := 56) 169 rfl (ci := 8) rfl zw_1149 zw_1151 zsel_X8_isCell zds_X8_isCell (by decide) zw_1152 zw_9 (by decide +kernel)) (
  zcons (zk_ifeq (pc := 59) (off := 13) (by decide) (by decide +kernel)) (
  zcons (zk_iload (pc := 62) (by decide +kernel)) (
  zcons (zk_iload (pc := 64) (by decide +kernel)) (
  zcons (zk_csi (pc := 66) 144 rfl zw_1115 zw_1116 zds_X8_has (by decide) zw_1117 zw_9 (by decide +kernel)) (
  zcons (zk_ifeq (pc := 69) (off := 5) (by decide) (by decide +kernel)) (
  zcons (zk_iconst (pc := 72) (z := 3) (by decide) (by decide +kernel)) (
  zcons (zk_reti (pc := 73) rfl (by decide +kernel)) (
  zcons (zk_iload (pc := 74) (by decide +kernel)) (
  zcons (zk_iconst (pc := 76) (z := 1) (by decide) (by decide +kernel)) (
  zcons (zk_iload (pc := 77) (by decide +kernel)) (
  zcons (zk_ishl (pc := 79) (by decide +kernel)) (
  zcons (zk_ior (pc := 80) (by decide +kernel)) (
  zcons (zk_istore (pc := 81) (by decide +kernel)) (
  zcons (zk_iinc (pc := 83) (z := 1) (by decide) (by decide +kernel)) (
  zcons (zk_goto (pc := 86) (off := (-56)) (by decide) (by decide +kernel)) (
  zcons (zk_aload_n (pc := 89) (j := 0) rfl (by decide +kernel)) (
  zcons (zk_getr (pc := 90) (ci := 8) (j := 1) rfl zinX8 (by decide) zw_926 (by decide +kernel)) (
  zcons (zk_iload_n (pc := 93) (j := 3) rfl (by decide +kernel)) (
  zcons (zk_iaload (pc := 94) (by decide +kernel)) (
  zcons (zk_ifge (pc := 95) (off := 7) (by decide) (by decide +kernel)) (
  zcons (zk_iconst (pc := 98) (z := 1) (by decide) (by decide +kernel)) (
  zcons (zk_goto (pc := 99) (off := 20) (by decide) (by decide +kernel)) (
  zcons (zk_aload_n (pc := 102) (j := 0) rfl (by decide +kernel)) (
  zcons (zk_iload_n (pc := 103) (j := 3) rfl (by decide +kernel)) (
  zcons (zk_iload (pc := 104) (by decide +kernel)) (
  zcons (zk_iload (pc := 106) (by decide +kernel)) (
  zcons (zk_cvi (pc := 108) 150 rfl (ci := 8) rfl zw_1019 zw_1021 zsel_X8_isPlace zds_X8_isPlace (by decide) zw_1022 zw_9 (by decide +kernel)) (
  zcons (zk_ifeq (pc := 111) (off := 7) (by decide) (by decide +kernel)) (
  zcons (zk_iconst (pc := 114) (z := 0) (by decide) (by decide +kernel)) (
  zcons (zk_goto (pc := 115) (off := 4) (by decide) (by decide +kernel)) (
  zcons (zk_iconst (pc := 118) (z := 2) (by decide) (by decide +kernel)) (
  zcons (zk_reti (pc := 119) rfl (by decide +kernel)) (znil))))))))))))))))))))))))))))))))))))))))))))))))))))))))))))))))))))

def tb_X8_ask : List (Nat × ZP) := [(0, zo_al 0 1), (1, zo_il 1 2), (2, zo_cvi 8 169 1 5), (5, zo_ifeq 17 8), (8, zo_il 2 9), (9, zo_i 0 10), (10, zo_i 1 11), (11, zo_csi 143 3 14), (14, zo_ifne 20 17), (17, zo_i (-1000001) 19), (19, zo_reti), (20, zo_al 0 21), (21, zo_i 0 22), (22, zo_put 8 19 25), (25, zo_al 0 26), (26, zo_getr 8 10 29), (29, zo_i 3 30), (30, zo_il 1 31), (31, zo_bin (· + ·) 32), (32, zo_iald 33), (33, zo_is 3 34), (34, zo_il 3 35), (35, zo_i 4 36), (36, zo_iclt 49 39), (39, zo_il 2 40), (40, zo_ifne 49 43), (43, zo_al 0 44), (44, zo_il 1 45), (45, zo_cvi 8 226 1 48), (48, zo_reti), (49, zo_il 3 50), (50, zo_i 4 51), (51, zo_iclt 74 54), (54, zo_al 0 55), (55, zo_i 23 57), (57, zo_cvv 8 224 1 60), (60, zo_al 0 61), (61, zo_i 20 63), (63, zo_cvv 8 224 1 66), (66, zo_il 1 67), (67, zo_al 0 68), (68, zo_il 1 69), (69, zo_cvi 8 226 1 72), (72, zo_bin (· - ·) 73), (73, zo_reti), (74, zo_il 2 75), (75, zo_i 1 76), (76, zo_icne 85 79), (79, zo_al 0 80), (80, zo_il 1 81), (81, zo_cvi 8 225 1 84), (84, zo_reti), (85, zo_il 3 86), (86, zo_i 2 87), (87, zo_icne 96 90), (90, zo_al 0 91), (91, zo_i 12 93), (93, zo_cvv 8 224 1 96), (96, zo_al 0 97), (97, zo_i 11 99), (99, zo_cvv 8 224 1 102), (102, zo_al 0 103), (103, zo_i 10 105), (105, zo_cvv 8 224 1 108), (108, zo_al 0 109), (109, zo_getr 8 10 112), (112, zo_i 31 114), (114, zo_il 1 115), (115, zo_bin (· + ·) 116), (116, zo_iald 117), (117, zo_al 0 118), (118, zo_il 1 119), (119, zo_cvi 8 225 1 122), (122, zo_bin (· + ·) 123), (123, zo_is 4 125), (125, zo_il 3 126), (126, zo_i 2 127), (127, zo_icne 136 130), (130, zo_il 4 132), (132, zo_un (fun x => -x) 133), (133, zo_goto 138), (136, zo_il 4 138), (138, zo_reti)]
def cu_X8_ask : List (Nat × List Bool) := []
set_option maxRecDepth 100000 in
set_option maxHeartbeats 4000000 in
theorem ok_X8_ask : ∀ e ∈ tb_X8_ask, ZOK zmt cX8_ask RX8 1 e.1 e.2 :=
  zcons (zk_aload_n (pc := 0) (j := 0) rfl (by decide +kernel)) (
  zcons (zk_iload_n (pc := 1) (j := 1) rfl (by decide +kernel)) (
  zcons (zk_cvi (pc := 2) 169 rfl (ci := 8) rfl zw_1149 zw_1151 zsel_X8_isCell zds_X8_isCell (by decide) zw_1152 zw_9 (by decide +kernel)) (
  zcons (zk_ifeq (pc := 5) (off := 12) (by decide) (by decide +kernel)) (
  zcons (zk_iload_n (pc := 8) (j := 2) rfl (by decide +kernel)) (
  zcons (zk_iconst (pc := 9) (z := 0) (by decide) (by decide +kernel)) (
  zcons (zk_iconst (pc := 10) (z := 1) (by decide) (by decide +kernel)) (
  zcons (zk_csi (pc := 11) 143 rfl zw_1002 zw_1003 zds_X8_in (by decide) zw_1004 zw_9 (by decide +kernel)) (
  zcons (zk_ifne (pc := 14) (off := 6) (by decide) (by decide +kernel)) (
  zcons (zk_ldc (pc := 17) zw_1005 (by decide +kernel)) (
  zcons (zk_reti (pc := 19) rfl (by decide +kernel)) (
  zcons (zk_aload_n (pc := 20) (j := 0) rfl (by decide +kernel)) (
  zcons (zk_iconst (pc := 21) (z := 0) (by decide) (by decide +kernel)) (
  zcons (zk_put (pc := 22) (ci := 8) (j := 19) rfl zinX8 (by decide) zw_944 tyX8 tyX8_ok nmX8 rfl (by decide +kernel) (by decide +kernel)) (
  zcons (zk_aload_n (pc := 25) (j := 0) rfl (by decide +kernel)) (
  zcons (zk_getr (pc := 26) (ci := 8) (j := 10) rfl zinX8 (by decide) zw_935 (by decide +kernel)) (
  zcons (zk_iconst (pc := 29) (z := 3) (by decide) (by decide +kernel)) (
  zcons (zk_iload_n (pc := 30) (j := 1) rfl (by decide +kernel)) (
  zcons (zk_iadd (pc := 31) (by decide +kernel)) (
  zcons (zk_iaload (pc := 32) (by decide +kernel)) (
  zcons (zk_istore_n (pc := 33) (j := 3) rfl (by decide +kernel)) (
  zcons (zk_iload_n (pc := 34) (j := 3) rfl (by decide +kernel)) (
  zcons (zk_iconst (pc := 35) (z := 4) (by decide) (by decide +kernel)) (
  zcons (zk_iclt (pc := 36) (off := 13) (by decide) (by decide +kernel)) (
  zcons (zk_iload_n (pc := 39) (j := 2) rfl (by decide +kernel)) (
  zcons (zk_ifne (pc := 40) (off := 9) (by decide) (by decide +kernel)) (
  zcons (zk_aload_n (pc := 43) (j := 0) rfl (by decide +kernel)) (
  zcons (zk_iload_n (pc := 44) (j := 1) rfl (by decide +kernel)) (
  zcons (zk_cvi (pc := 45) 226 rfl (ci := 8) rfl zw_1329 zw_1331 zsel_X8_sizeHigh zds_X8_sizeHigh (by decide) zw_1332 zw_9 (by decide +kernel)) (
  zcons (zk_reti (pc := 48) rfl (by decide +kernel)) (
  zcons (zk_iload_n (pc := 49) (j := 3) rfl (by decide +kernel)) (
  zcons (zk_iconst (pc := 50) (z := 4) (by decide) (by decide +kernel)) (
  zcons (zk_iclt (pc := 51) (off := 23) (by decide) (by decide +kernel)) (
  zcons (zk_aload_n (pc := 54) (j := 0) rfl (by decide +kernel)) (
  zcons (zk_bipush (pc := 55) (z := 23) (by decide) (by decide +kernel)) (
  zcons (zk_cvv (pc := 57) 224 rfl (ci := 8) rfl zw_1333 zw_1335 zsel_X8_leaves zds_X8_leaves (by decide) zw_1336 zw_9 (by decide +kernel)) (
  zcons (zk_aload_n (pc := 60) (j := 0) rfl (by decide +kernel)) (
  zcons (zk_bipush (pc := 61) (z := 20) (by decide) (by decide +kernel)) (
  zcons (zk_cvv (pc := 63) 224 rfl (ci := 8) rfl zw_1333 zw_1335 zsel_X8_leaves zds_X8_leaves (by decide) zw_1336 zw_9 (by decide +kernel)) (
  zcons (zk_iload_n (pc := 66) (j := 1) rfl (by decide +kernel)) (
  zcons (zk_aload_n (pc := 67) (j := 0) rfl (by decide +kernel)) (
  zcons (zk_iload_n (pc := 68) (j := 1) rfl (by decide +kernel)) (
  zcons (zk_cvi (pc := 69) 226 rfl (ci := 8) rfl zw_1329 zw_1331 zsel_X8_sizeHigh zds_X8_sizeHigh (by decide) zw_1332 zw_9 (by decide +kernel)) (
  zcons (zk_isub (pc := 72) (by decide +kernel)) (
  zcons (zk_reti (pc := 73) rfl (by decide +kernel)) (
  zcons (zk_iload_n (pc := 74) (j := 2) rfl (by decide +kernel)) (
  zcons (zk_iconst (pc := 75) (z := 1) (by decide) (by decide +kernel)) (
  zcons (zk_icne (pc := 76) (off := 9) (by decide) (by decide +kernel)) (
  zcons (zk_aload_n (pc := 79) (j := 0) rfl (by decide +kernel)) (
  zcons (zk_iload_n (pc := 80) (j := 1) rfl (by decide +kernel)) (
  zcons (zk_cvi (pc := 81) 225 rfl (ci := 8) rfl zw_1337 zw_1339 zsel_X8_markLow zds_X8_markLow (by decide) zw_1340 zw_9 (by decide +kernel)) (
  zcons (zk_reti (pc := 84) rfl (by decide +kernel)) (
  zcons (zk_iload_n (pc := 85) (j := 3) rfl (by decide +kernel)) (
  zcons (zk_iconst (pc := 86) (z := 2) (by decide) (by decide +kernel)) (
  zcons (zk_icne (pc := 87) (off := 9) (by decide) (by decide +kernel)) (
  zcons (zk_aload_n (pc := 90) (j := 0) rfl (by decide +kernel)) (
  zcons (zk_bipush (pc := 91) (z := 12) (by decide) (by decide +kernel)) (
  zcons (zk_cvv (pc := 93) 224 rfl (ci := 8) rfl zw_1333 zw_1335 zsel_X8_leaves zds_X8_leaves (by decide) zw_1336 zw_9 (by decide +kernel)) (
  zcons (zk_aload_n (pc := 96) (j := 0) rfl (by decide +kernel)) (
  zcons (zk_bipush (pc := 97) (z := 11) (by decide) (by decide +kernel)) (
  zcons (zk_cvv (pc := 99) 224 rfl (ci := 8) rfl zw_1333 zw_1335 zsel_X8_leaves zds_X8_leaves (by decide) zw_1336 zw_9 (by decide +kernel)) (
  zcons (zk_aload_n (pc := 102) (j := 0) rfl (by decide +kernel)) (
  zcons (zk_bipush (pc := 103) (z := 10) (by decide) (by decide +kernel)) (
  zcons (zk_cvv (pc := 105) 224 rfl (ci := 8) rfl zw_1333 zw_1335 zsel_X8_leaves zds_X8_leaves (by decide) zw_1336 zw_9 (by decide +kernel)) (
  zcons (zk_aload_n (pc := 108) (j := 0) rfl (by decide +kernel)) (
  zcons (zk_getr (pc := 109) (ci := 8) (j := 10) rfl zinX8 (by decide) zw_935 (by decide +kernel)) (
  zcons (zk_bipush (pc := 112) (z := 31) (by decide) (by decide +kernel)) (
  zcons (zk_iload_n (pc := 114) (j := 1) rfl (by decide +kernel)) (
  zcons (zk_iadd (pc := 115) (by decide +kernel)) (
  zcons (zk_iaload (pc := 116) (by decide +kernel)) (
  zcons (zk_aload_n (pc := 117) (j := 0) rfl (by decide +kernel)) (
  zcons (zk_iload_n (pc := 118) (j := 1) rfl (by decide +kernel)) (
  zcons (zk_cvi (pc := 119) 225 rfl (ci := 8) rfl zw_1337 zw_1339 zsel_X8_markLow zds_X8_markLow (by decide) zw_1340 zw_9 (by decide +kernel)) (
  zcons (zk_iadd (pc := 122) (by decide +kernel)) (
  zcons (zk_istore (pc := 123) (by decide +kernel)) (
  zcons (zk_iload_n (pc := 125) (j := 3) rfl (by decide +kernel)) (
  zcons (zk_iconst (pc := 126) (z := 2) (by decide) (by decide +kernel)) (
  zcons (zk_icne (pc := 127) (off := 9) (by decide) (by decide +kernel)) (
  zcons (zk_iload (pc := 130) (by decide +kernel)) (
  zcons (zk_ineg (pc := 132) (by decide +kernel)) (
  zcons (zk_goto (pc := 133) (off := 5) (by decide) (by decide +kernel)) (
  zcons (zk_iload (pc := 136) (by decide +kernel)) (
  zcons (zk_reti (pc := 138) rfl (by decide +kernel)) (znil)))))))))))))))))))))))))))))))))))))))))))))))))))))))))))))))))))))))))))))))))))
def tb_X8_trace : List (Nat × ZP) := [(0, zo_il 1 1), (1, zo_i 0 2), (2, zo_al 0 3), (3, zo_get 8 19 6), (6, zo_i 1 7), (7, zo_bin (· - ·) 8), (8, zo_csi 143 3 11), (11, zo_ifeq 23 14), (14, zo_al 0 15), (15, zo_getr 8 18 18), (18, zo_il 1 19), (19, zo_iald 20), (20, zo_goto 25), (23, zo_i (-1000000) 25), (25, zo_reti)]
def cu_X8_trace : List (Nat × List Bool) := []
set_option maxRecDepth 100000 in
set_option maxHeartbeats 4000000 in
theorem ok_X8_trace : ∀ e ∈ tb_X8_trace, ZOK zmt cX8_trace RX8 1 e.1 e.2 :=
  zcons (zk_iload_n (pc := 0) (j := 1) rfl (by decide +kernel)) (
  zcons (zk_iconst (pc := 1) (z := 0) (by decide) (by decide +kernel)) (
  zcons (zk_aload_n (pc := 2) (j := 0) rfl (by decide +kernel)) (
  zcons (zk_get (pc := 3) (ci := 8) (j := 19) rfl zinX8 (by decide) zw_944 (by decide +kernel)) (
  zcons (zk_iconst (pc := 6) (z := 1) (by decide) (by decide +kernel)) (
  zcons (zk_isub (pc := 7) (by decide +kernel)) (
  zcons (zk_csi (pc := 8) 143 rfl zw_1002 zw_1003 zds_X8_in (by decide) zw_1004 zw_9 (by decide +kernel)) (
  zcons (zk_ifeq (pc := 11) (off := 12) (by decide) (by decide +kernel)) (
  zcons (zk_aload_n (pc := 14) (j := 0) rfl (by decide +kernel)) (
  zcons (zk_getr (pc := 15) (ci := 8) (j := 18) rfl zinX8 (by decide) zw_943 (by decide +kernel)) (
  zcons (zk_iload_n (pc := 18) (j := 1) rfl (by decide +kernel)) (
  zcons (zk_iaload (pc := 19) (by decide +kernel)) (
  zcons (zk_goto (pc := 20) (off := 5) (by decide) (by decide +kernel)) (
  zcons (zk_ldc (pc := 23) zw_1169 (by decide +kernel)) (
  zcons (zk_reti (pc := 25) rfl (by decide +kernel)) (znil)))))))))))))))
def tb_X8_count : List (Nat × ZP) := [(0, zo_i 0 1), (1, zo_is 2 2), (2, zo_i 0 3), (3, zo_is 3 4), (4, zo_il 3 5), (5, zo_i 8 7), (7, zo_icge 33 10), (10, zo_il 2 11), (11, zo_al 0 12), (12, zo_getr 8 1 15), (15, zo_il 3 16), (16, zo_iald 17), (17, zo_ifge 24 20), (20, zo_i 0 21), (21, zo_goto 25), (24, zo_i 1 25), (25, zo_bin (· + ·) 26), (26, zo_is 2 27), (27, zo_inc 3 1 30), (30, zo_goto 4), (33, zo_il 1 34), (34, zo_sw [(0, 80), (1, 82), (2, 89), (3, 96), (4, 104), (5, 109), (6, 117), (7, 122)] 127), (80, zo_il 2 81), (81, zo_reti), (82, zo_al 0 83), (83, zo_getr 8 10 86), (86, zo_i 0 87), (87, zo_iald 88), (88, zo_reti), (89, zo_al 0 90), (90, zo_getr 8 10 93), (93, zo_i 2 94), (94, zo_iald 95), (95, zo_reti), (96, zo_al 0 97), (97, zo_cvi 8 172 0 100), (100, zo_csi 145 1 103), (103, zo_reti), (104, zo_al 0 105), (105, zo_cvi 8 173 0 108), (108, zo_reti), (109, zo_al 0 110), (110, zo_getr 8 10 113), (113, zo_i 24 115), (115, zo_iald 116), (116, zo_reti), (117, zo_al 0 118), (118, zo_get 8 14 121), (121, zo_reti), (122, zo_al 0 123), (123, zo_get 8 6 126), (126, zo_reti), (127, zo_i (-1000001) 129), (129, zo_reti)]
def cu_X8_count : List (Nat × List Bool) := [(4, [true, true, true, true])]
set_option maxRecDepth 100000 in
set_option maxHeartbeats 4000000 in
theorem ok_X8_count : ∀ e ∈ tb_X8_count, ZOK zmt cX8_count RX8 1 e.1 e.2 :=
  zcons (zk_iconst (pc := 0) (z := 0) (by decide) (by decide +kernel)) (
  zcons (zk_istore_n (pc := 1) (j := 2) rfl (by decide +kernel)) (
  zcons (zk_iconst (pc := 2) (z := 0) (by decide) (by decide +kernel)) (
  zcons (zk_istore_n (pc := 3) (j := 3) rfl (by decide +kernel)) (
  zcons (zk_iload_n (pc := 4) (j := 3) rfl (by decide +kernel)) (
  zcons (zk_bipush (pc := 5) (z := 8) (by decide) (by decide +kernel)) (
  zcons (zk_icge (pc := 7) (off := 26) (by decide) (by decide +kernel)) (
  zcons (zk_iload_n (pc := 10) (j := 2) rfl (by decide +kernel)) (
  zcons (zk_aload_n (pc := 11) (j := 0) rfl (by decide +kernel)) (
  zcons (zk_getr (pc := 12) (ci := 8) (j := 1) rfl zinX8 (by decide) zw_926 (by decide +kernel)) (
  zcons (zk_iload_n (pc := 15) (j := 3) rfl (by decide +kernel)) (
  zcons (zk_iaload (pc := 16) (by decide +kernel)) (
  zcons (zk_ifge (pc := 17) (off := 7) (by decide) (by decide +kernel)) (
  zcons (zk_iconst (pc := 20) (z := 0) (by decide) (by decide +kernel)) (
  zcons (zk_goto (pc := 21) (off := 4) (by decide) (by decide +kernel)) (
  zcons (zk_iconst (pc := 24) (z := 1) (by decide) (by decide +kernel)) (
  zcons (zk_iadd (pc := 25) (by decide +kernel)) (
  zcons (zk_istore_n (pc := 26) (j := 2) rfl (by decide +kernel)) (
  zcons (zk_iinc (pc := 27) (z := 1) (by decide) (by decide +kernel)) (
  zcons (zk_goto (pc := 30) (off := (-26)) (by decide) (by decide +kernel)) (
  zcons (zk_iload_n (pc := 33) (j := 1) rfl (by decide +kernel)) (
  zcons (zk_table (pc := 34) (dflt := 93) (lw := 0) (hi := 7) (offs := #[46, 48, 55, 62, 70, 75, 83, 88]) (len := 46) (by decide +kernel) (by decide +kernel)) (
  zcons (zk_iload_n (pc := 80) (j := 2) rfl (by decide +kernel)) (
  zcons (zk_reti (pc := 81) rfl (by decide +kernel)) (
  zcons (zk_aload_n (pc := 82) (j := 0) rfl (by decide +kernel)) (
  zcons (zk_getr (pc := 83) (ci := 8) (j := 10) rfl zinX8 (by decide) zw_935 (by decide +kernel)) (
  zcons (zk_iconst (pc := 86) (z := 0) (by decide) (by decide +kernel)) (
  zcons (zk_iaload (pc := 87) (by decide +kernel)) (
  zcons (zk_reti (pc := 88) rfl (by decide +kernel)) (
  zcons (zk_aload_n (pc := 89) (j := 0) rfl (by decide +kernel)) (
  zcons (zk_getr (pc := 90) (ci := 8) (j := 10) rfl zinX8 (by decide) zw_935 (by decide +kernel)) (
  zcons (zk_iconst (pc := 93) (z := 2) (by decide) (by decide +kernel)) (
  zcons (zk_iaload (pc := 94) (by decide +kernel)) (
  zcons (zk_reti (pc := 95) rfl (by decide +kernel)) (
  zcons (zk_aload_n (pc := 96) (j := 0) rfl (by decide +kernel)) (
  zcons (zk_cvi (pc := 97) 172 rfl (ci := 8) rfl zw_1100 zw_1102 zsel_X8_on zds_X8_on (by decide) zw_1103 zw_9 (by decide +kernel)) (
  zcons (zk_csi (pc := 100) 145 rfl zw_1126 zw_1127 zds_X8_ones (by decide) zw_1128 zw_9 (by decide +kernel)) (
  zcons (zk_reti (pc := 103) rfl (by decide +kernel)) (
  zcons (zk_aload_n (pc := 104) (j := 0) rfl (by decide +kernel)) (
  zcons (zk_cvi (pc := 105) 173 rfl (ci := 8) rfl zw_1178 zw_1180 zsel_X8_servedNow zds_X8_servedNow (by decide) zw_1181 zw_9 (by decide +kernel)) (
  zcons (zk_reti (pc := 108) rfl (by decide +kernel)) (
  zcons (zk_aload_n (pc := 109) (j := 0) rfl (by decide +kernel)) (
  zcons (zk_getr (pc := 110) (ci := 8) (j := 10) rfl zinX8 (by decide) zw_935 (by decide +kernel)) (
  zcons (zk_bipush (pc := 113) (z := 24) (by decide) (by decide +kernel)) (
  zcons (zk_iaload (pc := 115) (by decide +kernel)) (
  zcons (zk_reti (pc := 116) rfl (by decide +kernel)) (
  zcons (zk_aload_n (pc := 117) (j := 0) rfl (by decide +kernel)) (
  zcons (zk_get (pc := 118) (ci := 8) (j := 14) rfl zinX8 (by decide) zw_939 (by decide +kernel)) (
  zcons (zk_reti (pc := 121) rfl (by decide +kernel)) (
  zcons (zk_aload_n (pc := 122) (j := 0) rfl (by decide +kernel)) (
  zcons (zk_get (pc := 123) (ci := 8) (j := 6) rfl zinX8 (by decide) zw_931 (by decide +kernel)) (
  zcons (zk_reti (pc := 126) rfl (by decide +kernel)) (
  zcons (zk_ldc (pc := 127) zw_1005 (by decide +kernel)) (
  zcons (zk_reti (pc := 129) rfl (by decide +kernel)) (znil))))))))))))))))))))))))))))))))))))))))))))))))))))))
def tb_X8_status : List (Nat × ZP) := [(0, zo_al 0 1), (1, zo_get 8 4 4), (4, zo_reti)]
def cu_X8_status : List (Nat × List Bool) := []
set_option maxRecDepth 100000 in
set_option maxHeartbeats 4000000 in
theorem ok_X8_status : ∀ e ∈ tb_X8_status, ZOK zmt cX8_status RX8 1 e.1 e.2 :=
  zcons (zk_aload_n (pc := 0) (j := 0) rfl (by decide +kernel)) (
  zcons (zk_get (pc := 1) (ci := 8) (j := 4) rfl zinX8 (by decide) zw_929 (by decide +kernel)) (
  zcons (zk_reti (pc := 4) rfl (by decide +kernel)) (znil)))

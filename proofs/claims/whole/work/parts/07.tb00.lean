def tb_J6_lowestOneBit_0f7a4 : List (Nat × ZP) := [(0, zo_il 0 1), (1, zo_il 0 2), (2, zo_un (fun x => -x) 3), (3, zo_bin (· &&& ·) 4), (4, zo_reti)]
def cu_J6_lowestOneBit_0f7a4 : List (Nat × List Bool) := []
set_option maxRecDepth 100000 in
set_option maxHeartbeats 4000000 in
theorem ok_J6_lowestOneBit_0f7a4 : ∀ e ∈ tb_J6_lowestOneBit_0f7a4, ZOK zmt cJ6_lowestOneBit_0f7a4 RJ6 1 e.1 e.2 :=
  zcons (zk_iload_n (pc := 0) (j := 0) rfl (by decide +kernel)) (
  zcons (zk_iload_n (pc := 1) (j := 0) rfl (by decide +kernel)) (
  zcons (zk_ineg (pc := 2) (by decide +kernel)) (
  zcons (zk_iand (pc := 3) (by decide +kernel)) (
  zcons (zk_reti (pc := 4) rfl (by decide +kernel)) (znil)))))
def tb_J6_numberOfTrailingZeros_0f7a4 : List (Nat × ZP) := [(0, zo_il 0 1), (1, zo_i (-1) 2), (2, zo_bin (· ^^^ ·) 3), (3, zo_il 0 4), (4, zo_i 1 5), (5, zo_bin (· - ·) 6), (6, zo_bin (· &&& ·) 7), (7, zo_is 0 8), (8, zo_il 0 9), (9, zo_ifgt 17 12), (12, zo_il 0 13), (13, zo_i 32 15), (15, zo_bin (· &&& ·) 16), (16, zo_reti), (17, zo_i 1 18), (18, zo_is 1 19), (19, zo_il 0 20), (20, zo_i 65536 23), (23, zo_icle 34 26), (26, zo_inc 1 16 29), (29, zo_il 0 30), (30, zo_i 16 32), (32, zo_bin zushr 33), (33, zo_is 0 34), (34, zo_il 0 35), (35, zo_i 256 38), (38, zo_icle 49 41), (41, zo_inc 1 8 44), (44, zo_il 0 45), (45, zo_i 8 47), (47, zo_bin zushr 48), (48, zo_is 0 49), (49, zo_il 0 50), (50, zo_i 16 52), (52, zo_icle 62 55), (55, zo_inc 1 4 58), (58, zo_il 0 59), (59, zo_i 4 60), (60, zo_bin zushr 61), (61, zo_is 0 62), (62, zo_il 0 63), (63, zo_i 4 64), (64, zo_icle 74 67), (67, zo_inc 1 2 70), (70, zo_il 0 71), (71, zo_i 2 72), (72, zo_bin zushr 73), (73, zo_is 0 74), (74, zo_il 1 75), (75, zo_il 0 76), (76, zo_i 1 77), (77, zo_bin zushr 78), (78, zo_bin (· + ·) 79), (79, zo_reti)]
def cu_J6_numberOfTrailingZeros_0f7a4 : List (Nat × List Bool) := []
set_option maxRecDepth 100000 in
set_option maxHeartbeats 4000000 in
theorem ok_J6_numberOfTrailingZeros_0f7a4 : ∀ e ∈ tb_J6_numberOfTrailingZeros_0f7a4, ZOK zmt cJ6_numberOfTrailingZeros_0f7a4 RJ6 1 e.1 e.2 :=
  zcons (zk_iload_n (pc := 0) (j := 0) rfl (by decide +kernel)) (
  zcons (zk_iconst (pc := 1) (z := (-1)) (by decide) (by decide +kernel)) (
  zcons (zk_ixor (pc := 2) (by decide +kernel)) (
  zcons (zk_iload_n (pc := 3) (j := 0) rfl (by decide +kernel)) (
  zcons (zk_iconst (pc := 4) (z := 1) (by decide) (by decide +kernel)) (
  zcons (zk_isub (pc := 5) (by decide +kernel)) (
  zcons (zk_iand (pc := 6) (by decide +kernel)) (
  zcons (zk_istore_n (pc := 7) (j := 0) rfl (by decide +kernel)) (
  zcons (zk_iload_n (pc := 8) (j := 0) rfl (by decide +kernel)) (
  zcons (zk_ifgt (pc := 9) (off := 8) (by decide) (by decide +kernel)) (
  zcons (zk_iload_n (pc := 12) (j := 0) rfl (by decide +kernel)) (
  zcons (zk_bipush (pc := 13) (z := 32) (by decide) (by decide +kernel)) (
  zcons (zk_iand (pc := 15) (by decide +kernel)) (
  zcons (zk_reti (pc := 16) rfl (by decide +kernel)) (
  zcons (zk_iconst (pc := 17) (z := 1) (by decide) (by decide +kernel)) (
  zcons (zk_istore_n (pc := 18) (j := 1) rfl (by decide +kernel)) (
  zcons (zk_iload_n (pc := 19) (j := 0) rfl (by decide +kernel)) (
  zcons (zk_ldcw (pc := 20) zw_606 (by decide +kernel)) (
  zcons (zk_icle (pc := 23) (off := 11) (by decide) (by decide +kernel)) (
  zcons (zk_iinc (pc := 26) (z := 16) (by decide) (by decide +kernel)) (
  zcons (zk_iload_n (pc := 29) (j := 0) rfl (by decide +kernel)) (
  zcons (zk_bipush (pc := 30) (z := 16) (by decide) (by decide +kernel)) (
  zcons (zk_iushr (pc := 32) (by decide +kernel)) (
  zcons (zk_istore_n (pc := 33) (j := 0) rfl (by decide +kernel)) (
  zcons (zk_iload_n (pc := 34) (j := 0) rfl (by decide +kernel)) (
  zcons (zk_sipush (pc := 35) (z := 256) (by decide) (by decide +kernel)) (
  zcons (zk_icle (pc := 38) (off := 11) (by decide) (by decide +kernel)) (
  zcons (zk_iinc (pc := 41) (z := 8) (by decide) (by decide +kernel)) (
  zcons (zk_iload_n (pc := 44) (j := 0) rfl (by decide +kernel)) (
  zcons (zk_bipush (pc := 45) (z := 8) (by decide) (by decide +kernel)) (
  zcons (zk_iushr (pc := 47) (by decide +kernel)) (
  zcons (zk_istore_n (pc := 48) (j := 0) rfl (by decide +kernel)) (
  zcons (zk_iload_n (pc := 49) (j := 0) rfl (by decide +kernel)) (
  zcons (zk_bipush (pc := 50) (z := 16) (by decide) (by decide +kernel)) (
  zcons (zk_icle (pc := 52) (off := 10) (by decide) (by decide +kernel)) (
  zcons (zk_iinc (pc := 55) (z := 4) (by decide) (by decide +kernel)) (
  zcons (zk_iload_n (pc := 58) (j := 0) rfl (by decide +kernel)) (
  zcons (zk_iconst (pc := 59) (z := 4) (by decide) (by decide +kernel)) (
  zcons (zk_iushr (pc := 60) (by decide +kernel)) (
  zcons (zk_istore_n (pc := 61) (j := 0) rfl (by decide +kernel)) (
  zcons (zk_iload_n (pc := 62) (j := 0) rfl (by decide +kernel)) (
  zcons (zk_iconst (pc := 63) (z := 4) (by decide) (by decide +kernel)) (
  zcons (zk_icle (pc := 64) (off := 10) (by decide) (by decide +kernel)) (
  zcons (zk_iinc (pc := 67) (z := 2) (by decide) (by decide +kernel)) (
  zcons (zk_iload_n (pc := 70) (j := 0) rfl (by decide +kernel)) (
  zcons (zk_iconst (pc := 71) (z := 2) (by decide) (by decide +kernel)) (
  zcons (zk_iushr (pc := 72) (by decide +kernel)) (
  zcons (zk_istore_n (pc := 73) (j := 0) rfl (by decide +kernel)) (
  zcons (zk_iload_n (pc := 74) (j := 1) rfl (by decide +kernel)) (
  zcons (zk_iload_n (pc := 75) (j := 0) rfl (by decide +kernel)) (
  zcons (zk_iconst (pc := 76) (z := 1) (by decide) (by decide +kernel)) (
  zcons (zk_iushr (pc := 77) (by decide +kernel)) (
  zcons (zk_iadd (pc := 78) (by decide +kernel)) (
  zcons (zk_reti (pc := 79) rfl (by decide +kernel)) (znil))))))))))))))))))))))))))))))))))))))))))))))))))))))
def tb_J6_bitCount_0f7a4 : List (Nat × ZP) := [(0, zo_il 0 1), (1, zo_il 0 2), (2, zo_i 1 3), (3, zo_bin zushr 4), (4, zo_i 1431655765 7), (7, zo_bin (· &&& ·) 8), (8, zo_bin (· - ·) 9), (9, zo_is 0 10), (10, zo_il 0 11), (11, zo_i 858993459 14), (14, zo_bin (· &&& ·) 15), (15, zo_il 0 16), (16, zo_i 2 17), (17, zo_bin zushr 18), (18, zo_i 858993459 21), (21, zo_bin (· &&& ·) 22), (22, zo_bin (· + ·) 23), (23, zo_is 0 24), (24, zo_il 0 25), (25, zo_il 0 26), (26, zo_i 4 27), (27, zo_bin zushr 28), (28, zo_bin (· + ·) 29), (29, zo_i 252645135 32), (32, zo_bin (· &&& ·) 33), (33, zo_is 0 34), (34, zo_il 0 35), (35, zo_il 0 36), (36, zo_i 8 38), (38, zo_bin zushr 39), (39, zo_bin (· + ·) 40), (40, zo_is 0 41), (41, zo_il 0 42), (42, zo_il 0 43), (43, zo_i 16 45), (45, zo_bin zushr 46), (46, zo_bin (· + ·) 47), (47, zo_is 0 48), (48, zo_il 0 49), (49, zo_i 63 51), (51, zo_bin (· &&& ·) 52), (52, zo_reti)]
def cu_J6_bitCount_0f7a4 : List (Nat × List Bool) := []
set_option maxRecDepth 100000 in
set_option maxHeartbeats 4000000 in
theorem ok_J6_bitCount_0f7a4 : ∀ e ∈ tb_J6_bitCount_0f7a4, ZOK zmt cJ6_bitCount_0f7a4 RJ6 1 e.1 e.2 :=
  zcons (zk_iload_n (pc := 0) (j := 0) rfl (by decide +kernel)) (
  zcons (zk_iload_n (pc := 1) (j := 0) rfl (by decide +kernel)) (
  zcons (zk_iconst (pc := 2) (z := 1) (by decide) (by decide +kernel)) (
  zcons (zk_iushr (pc := 3) (by decide +kernel)) (
  zcons (zk_ldcw (pc := 4) zw_425 (by decide +kernel)) (
  zcons (zk_iand (pc := 7) (by decide +kernel)) (
  zcons (zk_isub (pc := 8) (by decide +kernel)) (
  zcons (zk_istore_n (pc := 9) (j := 0) rfl (by decide +kernel)) (
  zcons (zk_iload_n (pc := 10) (j := 0) rfl (by decide +kernel)) (
  zcons (zk_ldcw (pc := 11) zw_426 (by decide +kernel)) (
  zcons (zk_iand (pc := 14) (by decide +kernel)) (
  zcons (zk_iload_n (pc := 15) (j := 0) rfl (by decide +kernel)) (
  zcons (zk_iconst (pc := 16) (z := 2) (by decide) (by decide +kernel)) (
  zcons (zk_iushr (pc := 17) (by decide +kernel)) (
  zcons (zk_ldcw (pc := 18) zw_426 (by decide +kernel)) (
  zcons (zk_iand (pc := 21) (by decide +kernel)) (
  zcons (zk_iadd (pc := 22) (by decide +kernel)) (
  zcons (zk_istore_n (pc := 23) (j := 0) rfl (by decide +kernel)) (
  zcons (zk_iload_n (pc := 24) (j := 0) rfl (by decide +kernel)) (
  zcons (zk_iload_n (pc := 25) (j := 0) rfl (by decide +kernel)) (
  zcons (zk_iconst (pc := 26) (z := 4) (by decide) (by decide +kernel)) (
  zcons (zk_iushr (pc := 27) (by decide +kernel)) (
  zcons (zk_iadd (pc := 28) (by decide +kernel)) (
  zcons (zk_ldcw (pc := 29) zw_427 (by decide +kernel)) (
  zcons (zk_iand (pc := 32) (by decide +kernel)) (
  zcons (zk_istore_n (pc := 33) (j := 0) rfl (by decide +kernel)) (
  zcons (zk_iload_n (pc := 34) (j := 0) rfl (by decide +kernel)) (
  zcons (zk_iload_n (pc := 35) (j := 0) rfl (by decide +kernel)) (
  zcons (zk_bipush (pc := 36) (z := 8) (by decide) (by decide +kernel)) (
  zcons (zk_iushr (pc := 38) (by decide +kernel)) (
  zcons (zk_iadd (pc := 39) (by decide +kernel)) (
  zcons (zk_istore_n (pc := 40) (j := 0) rfl (by decide +kernel)) (
  zcons (zk_iload_n (pc := 41) (j := 0) rfl (by decide +kernel)) (
  zcons (zk_iload_n (pc := 42) (j := 0) rfl (by decide +kernel)) (
  zcons (zk_bipush (pc := 43) (z := 16) (by decide) (by decide +kernel)) (
  zcons (zk_iushr (pc := 45) (by decide +kernel)) (
  zcons (zk_iadd (pc := 46) (by decide +kernel)) (
  zcons (zk_istore_n (pc := 47) (j := 0) rfl (by decide +kernel)) (
  zcons (zk_iload_n (pc := 48) (j := 0) rfl (by decide +kernel)) (
  zcons (zk_bipush (pc := 49) (z := 63) (by decide) (by decide +kernel)) (
  zcons (zk_iand (pc := 51) (by decide +kernel)) (
  zcons (zk_reti (pc := 52) rfl (by decide +kernel)) (znil))))))))))))))))))))))))))))))))))))))))))
def tb_J7_fill_d0a16 : List (Nat × ZP) := [(0, zo_i 0 1), (1, zo_is 3 2), (2, zo_al 0 3), (3, zo_alen 1 4), (4, zo_is 4 6), (6, zo_il 3 7), (7, zo_il 4 9), (9, zo_icge 22 12), (12, zo_al 0 13), (13, zo_il 3 14), (14, zo_ll 1 15), (15, zo_last 16), (16, zo_inc 3 1 19), (19, zo_goto 6), (22, zo_retv)]
def cu_J7_fill_d0a16 : List (Nat × List Bool) := [(6, [true, true, false, true, true])]
set_option maxRecDepth 100000 in
set_option maxHeartbeats 4000000 in
theorem ok_J7_fill_d0a16 : ∀ e ∈ tb_J7_fill_d0a16, ZOK zmt cJ7_fill_d0a16 RJ7 0 e.1 e.2 :=
  zcons (zk_iconst (pc := 0) (z := 0) (by decide) (by decide +kernel)) (
  zcons (zk_istore_n (pc := 1) (j := 3) rfl (by decide +kernel)) (
  zcons (zk_aload_n (pc := 2) (j := 0) rfl (by decide +kernel)) (
  zcons (zk_alen (pc := 3) (t := 1) (fun _ => rfl) (by decide +kernel)) (
  zcons (zk_istore (pc := 4) (by decide +kernel)) (
  zcons (zk_iload_n (pc := 6) (j := 3) rfl (by decide +kernel)) (
  zcons (zk_iload (pc := 7) (by decide +kernel)) (
  zcons (zk_icge (pc := 9) (off := 13) (by decide) (by decide +kernel)) (
  zcons (zk_aload_n (pc := 12) (j := 0) rfl (by decide +kernel)) (
  zcons (zk_iload_n (pc := 13) (j := 3) rfl (by decide +kernel)) (
  zcons (zk_lload_n (pc := 14) (j := 1) rfl (by decide +kernel)) (
  zcons (zk_lastore (pc := 15) (by decide +kernel)) (
  zcons (zk_iinc (pc := 16) (z := 1) (by decide) (by decide +kernel)) (
  zcons (zk_goto (pc := 19) (off := (-13)) (by decide) (by decide +kernel)) (
  zcons (zk_retv (pc := 22) rfl (by decide +kernel)) (znil)))))))))))))))
def tb_J7_fill_53178 : List (Nat × ZP) := [(0, zo_i 0 1), (1, zo_is 2 2), (2, zo_al 0 3), (3, zo_alen 0 4), (4, zo_is 3 5), (5, zo_il 2 6), (6, zo_il 3 7), (7, zo_icge 20 10), (10, zo_al 0 11), (11, zo_il 2 12), (12, zo_il 1 13), (13, zo_iast 14), (14, zo_inc 2 1 17), (17, zo_goto 5), (20, zo_retv)]
def cu_J7_fill_53178 : List (Nat × List Bool) := [(5, [true, true, true, true])]
set_option maxRecDepth 100000 in
set_option maxHeartbeats 4000000 in
theorem ok_J7_fill_53178 : ∀ e ∈ tb_J7_fill_53178, ZOK zmt cJ7_fill_53178 RJ7 0 e.1 e.2 :=
  zcons (zk_iconst (pc := 0) (z := 0) (by decide) (by decide +kernel)) (
  zcons (zk_istore_n (pc := 1) (j := 2) rfl (by decide +kernel)) (
  zcons (zk_aload_n (pc := 2) (j := 0) rfl (by decide +kernel)) (
  zcons (zk_alen (pc := 3) (t := 0) (fun _ => rfl) (by decide +kernel)) (
  zcons (zk_istore_n (pc := 4) (j := 3) rfl (by decide +kernel)) (
  zcons (zk_iload_n (pc := 5) (j := 2) rfl (by decide +kernel)) (
  zcons (zk_iload_n (pc := 6) (j := 3) rfl (by decide +kernel)) (
  zcons (zk_icge (pc := 7) (off := 13) (by decide) (by decide +kernel)) (
  zcons (zk_aload_n (pc := 10) (j := 0) rfl (by decide +kernel)) (
  zcons (zk_iload_n (pc := 11) (j := 2) rfl (by decide +kernel)) (
  zcons (zk_iload_n (pc := 12) (j := 1) rfl (by decide +kernel)) (
  zcons (zk_iastore (pc := 13) (by decide +kernel)) (
  zcons (zk_iinc (pc := 14) (z := 1) (by decide) (by decide +kernel)) (
  zcons (zk_goto (pc := 17) (off := (-12)) (by decide) (by decide +kernel)) (
  zcons (zk_retv (pc := 20) rfl (by decide +kernel)) (znil)))))))))))))))
def tb_J9_max_7cf53 : List (Nat × ZP) := [(0, zo_il 0 1), (1, zo_il 1 2), (2, zo_iclt 9 5), (5, zo_il 0 6), (6, zo_goto 10), (9, zo_il 1 10), (10, zo_reti)]
def cu_J9_max_7cf53 : List (Nat × List Bool) := []
set_option maxRecDepth 100000 in
set_option maxHeartbeats 4000000 in
theorem ok_J9_max_7cf53 : ∀ e ∈ tb_J9_max_7cf53, ZOK zmt cJ9_max_7cf53 RJ9 1 e.1 e.2 :=
  zcons (zk_iload_n (pc := 0) (j := 0) rfl (by decide +kernel)) (
  zcons (zk_iload_n (pc := 1) (j := 1) rfl (by decide +kernel)) (
  zcons (zk_iclt (pc := 2) (off := 7) (by decide) (by decide +kernel)) (
  zcons (zk_iload_n (pc := 5) (j := 0) rfl (by decide +kernel)) (
  zcons (zk_goto (pc := 6) (off := 4) (by decide) (by decide +kernel)) (
  zcons (zk_iload_n (pc := 9) (j := 1) rfl (by decide +kernel)) (
  zcons (zk_reti (pc := 10) rfl (by decide +kernel)) (znil)))))))
def tb_J9_min_7cf53 : List (Nat × ZP) := [(0, zo_il 0 1), (1, zo_il 1 2), (2, zo_icgt 9 5), (5, zo_il 0 6), (6, zo_goto 10), (9, zo_il 1 10), (10, zo_reti)]
def cu_J9_min_7cf53 : List (Nat × List Bool) := []
set_option maxRecDepth 100000 in
set_option maxHeartbeats 4000000 in
theorem ok_J9_min_7cf53 : ∀ e ∈ tb_J9_min_7cf53, ZOK zmt cJ9_min_7cf53 RJ9 1 e.1 e.2 :=
  zcons (zk_iload_n (pc := 0) (j := 0) rfl (by decide +kernel)) (
  zcons (zk_iload_n (pc := 1) (j := 1) rfl (by decide +kernel)) (
  zcons (zk_icgt (pc := 2) (off := 7) (by decide) (by decide +kernel)) (
  zcons (zk_iload_n (pc := 5) (j := 0) rfl (by decide +kernel)) (
  zcons (zk_goto (pc := 6) (off := 4) (by decide) (by decide +kernel)) (
  zcons (zk_iload_n (pc := 9) (j := 1) rfl (by decide +kernel)) (
  zcons (zk_reti (pc := 10) rfl (by decide +kernel)) (znil)))))))
def tb_X0_keep : List (Nat × ZP) := [(0, zo_al 0 1), (1, zo_getr 0 0 4), (4, zo_al 0 5), (5, zo_get 0 3 8), (8, zo_il 1 9), (9, zo_iast 10), (10, zo_al 0 11), (11, zo_getr 0 1 14), (14, zo_al 0 15), (15, zo_get 0 3 18), (18, zo_il 2 19), (19, zo_iast 20), (20, zo_al 0 21), (21, zo_getr 0 2 24), (24, zo_al 0 25), (25, zo_get 0 3 28), (28, zo_il 3 29), (29, zo_iast 30), (30, zo_al 0 31), (31, zo_al 0 32), (32, zo_get 0 3 35), (35, zo_i 1 36), (36, zo_bin (· + ·) 37), (37, zo_i 24 39), (39, zo_dv zrem 40), (40, zo_put 0 3 43), (43, zo_al 0 44), (44, zo_al 0 45), (45, zo_get 0 4 48), (48, zo_i 1 49), (49, zo_bin (· + ·) 50), (50, zo_i 24 52), (52, zo_csi 235 2 55), (55, zo_put 0 4 58), (58, zo_retv)]
def cu_X0_keep : List (Nat × List Bool) := []
set_option maxRecDepth 100000 in
set_option maxHeartbeats 4000000 in
theorem ok_X0_keep : ∀ e ∈ tb_X0_keep, ZOK zmt cX0_keep RX0 0 e.1 e.2 :=
  zcons (zk_aload_n (pc := 0) (j := 0) rfl (by decide +kernel)) (
  zcons (zk_getr (pc := 1) (ci := 0) (j := 0) rfl zinX0 (by decide) zw_138 (by decide +kernel)) (
  zcons (zk_aload_n (pc := 4) (j := 0) rfl (by decide +kernel)) (
  zcons (zk_get (pc := 5) (ci := 0) (j := 3) rfl zinX0 (by decide) zw_141 (by decide +kernel)) (
  zcons (zk_iload_n (pc := 8) (j := 1) rfl (by decide +kernel)) (
  zcons (zk_iastore (pc := 9) (by decide +kernel)) (
  zcons (zk_aload_n (pc := 10) (j := 0) rfl (by decide +kernel)) (
  zcons (zk_getr (pc := 11) (ci := 0) (j := 1) rfl zinX0 (by decide) zw_139 (by decide +kernel)) (
  zcons (zk_aload_n (pc := 14) (j := 0) rfl (by decide +kernel)) (
  zcons (zk_get (pc := 15) (ci := 0) (j := 3) rfl zinX0 (by decide) zw_141 (by decide +kernel)) (
  zcons (zk_iload_n (pc := 18) (j := 2) rfl (by decide +kernel)) (
  zcons (zk_iastore (pc := 19) (by decide +kernel)) (
  zcons (zk_aload_n (pc := 20) (j := 0) rfl (by decide +kernel)) (
  zcons (zk_getr (pc := 21) (ci := 0) (j := 2) rfl zinX0 (by decide) zw_140 (by decide +kernel)) (
  zcons (zk_aload_n (pc := 24) (j := 0) rfl (by decide +kernel)) (
  zcons (zk_get (pc := 25) (ci := 0) (j := 3) rfl zinX0 (by decide) zw_141 (by decide +kernel)) (
  zcons (zk_iload_n (pc := 28) (j := 3) rfl (by decide +kernel)) (
  zcons (zk_iastore (pc := 29) (by decide +kernel)) (
  zcons (zk_aload_n (pc := 30) (j := 0) rfl (by decide +kernel)) (
  zcons (zk_aload_n (pc := 31) (j := 0) rfl (by decide +kernel)) (
  zcons (zk_get (pc := 32) (ci := 0) (j := 3) rfl zinX0 (by decide) zw_141 (by decide +kernel)) (
  zcons (zk_iconst (pc := 35) (z := 1) (by decide) (by decide +kernel)) (
  zcons (zk_iadd (pc := 36) (by decide +kernel)) (
  zcons (zk_bipush (pc := 37) (z := 24) (by decide) (by decide +kernel)) (
  zcons (zk_irem (pc := 39) (by decide +kernel)) (
  zcons (zk_put (pc := 40) (ci := 0) (j := 3) rfl zinX0 (by decide) zw_141 tyX0 tyX0_ok nmX0 rfl (by decide +kernel) (by decide +kernel)) (
  zcons (zk_aload_n (pc := 43) (j := 0) rfl (by decide +kernel)) (
  zcons (zk_aload_n (pc := 44) (j := 0) rfl (by decide +kernel)) (
  zcons (zk_get (pc := 45) (ci := 0) (j := 4) rfl zinX0 (by decide) zw_142 (by decide +kernel)) (
  zcons (zk_iconst (pc := 48) (z := 1) (by decide) (by decide +kernel)) (
  zcons (zk_iadd (pc := 49) (by decide +kernel)) (
  zcons (zk_bipush (pc := 50) (z := 24) (by decide) (by decide +kernel)) (
  zcons (zk_csi (pc := 52) 235 rfl zw_495 zw_377 zds_J9_min_7cf53 (by decide) zw_378 zw_12 (by decide +kernel)) (
  zcons (zk_put (pc := 55) (ci := 0) (j := 4) rfl zinX0 (by decide) zw_142 tyX0 tyX0_ok nmX0 rfl (by decide +kernel) (by decide +kernel)) (
  zcons (zk_retv (pc := 58) rfl (by decide +kernel)) (znil)))))))))))))))))))))))))))))))))))
def tb_X0_takeBackLatest : List (Nat × ZP) := [(0, zo_al 0 1), (1, zo_al 0 2), (2, zo_get 0 3 5), (5, zo_i 24 7), (7, zo_bin (· + ·) 8), (8, zo_i 1 9), (9, zo_bin (· - ·) 10), (10, zo_i 24 12), (12, zo_dv zrem 13), (13, zo_put 0 3 16), (16, zo_al 0 17), (17, zo_dup 18), (18, zo_get 0 4 21), (21, zo_i 1 22), (22, zo_bin (· - ·) 23), (23, zo_put 0 4 26), (26, zo_al 0 27), (27, zo_getr 0 1 30), (30, zo_al 0 31), (31, zo_get 0 3 34), (34, zo_iald 35), (35, zo_is 2 36), (36, zo_al 0 37), (37, zo_getr 0 0 40), (40, zo_al 0 41), (41, zo_get 0 3 44), (44, zo_iald 45), (45, zo_sw [(0, 76), (1, 102), (2, 120), (3, 149)] 167), (76, zo_al 1 77), (77, zo_il 2 78), (78, zo_cvv 5 59 1 81), (81, zo_al 1 82), (82, zo_dup 83), (83, zo_get 5 4 86), (86, zo_al 0 87), (87, zo_getr 0 2 90), (90, zo_al 0 91), (91, zo_get 0 3 94), (94, zo_iald 95), (95, zo_bin (· - ·) 96), (96, zo_put 5 4 99), (99, zo_goto 180), (102, zo_al 1 103), (103, zo_il 2 104), (104, zo_al 0 105), (105, zo_getr 0 2 108), (108, zo_al 0 109), (109, zo_get 0 3 112), (112, zo_iald 113), (113, zo_i 0 114), (114, zo_cvv 5 58 3 117), (117, zo_goto 180), (120, zo_al 1 121), (121, zo_dup 122), (122, zo_get 5 5 125), (125, zo_i 1 126), (126, zo_il 2 127), (127, zo_bin zshl 128), (128, zo_bin (· ||| ·) 129), (129, zo_put 5 5 132), (132, zo_al 1 133), (133, zo_dup 134), (134, zo_get 5 6 137), (137, zo_i 1 138), (138, zo_il 2 139), (139, zo_bin zshl 140), (140, zo_i (-1) 141), (141, zo_bin (· ^^^ ·) 142), (142, zo_bin (· &&& ·) 143), (143, zo_put 5 6 146), (146, zo_goto 180), (149, zo_al 1 150), (150, zo_getr 5 10 153), (153, zo_il 2 154), (154, zo_al 0 155), (155, zo_getr 0 2 158), (158, zo_al 0 159), (159, zo_get 0 3 162), (162, zo_iald 163), (163, zo_iast 164), (164, zo_goto 180), (167, zo_al 1 168), (168, zo_al 0 169), (169, zo_getr 0 2 172), (172, zo_al 0 173), (173, zo_get 0 3 176), (176, zo_iald 177), (177, zo_put 5 3 180), (180, zo_retv)]
def cu_X0_takeBackLatest : List (Nat × List Bool) := []
set_option maxRecDepth 100000 in
set_option maxHeartbeats 4000000 in
theorem ok_X0_takeBackLatest : ∀ e ∈ tb_X0_takeBackLatest, ZOK zmt cX0_takeBackLatest RX0 0 e.1 e.2 :=
  zcons (zk_aload_n (pc := 0) (j := 0) rfl (by decide +kernel)) (
  zcons (zk_aload_n (pc := 1) (j := 0) rfl (by decide +kernel)) (
  zcons (zk_get (pc := 2) (ci := 0) (j := 3) rfl zinX0 (by decide) zw_141 (by decide +kernel)) (
  zcons (zk_bipush (pc := 5) (z := 24) (by decide) (by decide +kernel)) (
  zcons (zk_iadd (pc := 7) (by decide +kernel)) (
  zcons (zk_iconst (pc := 8) (z := 1) (by decide) (by decide +kernel)) (
  zcons (zk_isub (pc := 9) (by decide +kernel)) (
  zcons (zk_bipush (pc := 10) (z := 24) (by decide) (by decide +kernel)) (
  zcons (zk_irem (pc := 12) (by decide +kernel)) (
  zcons (zk_put (pc := 13) (ci := 0) (j := 3) rfl zinX0 (by decide) zw_141 tyX0 tyX0_ok nmX0 rfl (by decide +kernel) (by decide +kernel)) (
  zcons (zk_aload_n (pc := 16) (j := 0) rfl (by decide +kernel)) (
  zcons (zk_dup (pc := 17) (by decide +kernel)) (
  zcons (zk_get (pc := 18) (ci := 0) (j := 4) rfl zinX0 (by decide) zw_142 (by decide +kernel)) (
  zcons (zk_iconst (pc := 21) (z := 1) (by decide) (by decide +kernel)) (
  zcons (zk_isub (pc := 22) (by decide +kernel)) (
  zcons (zk_put (pc := 23) (ci := 0) (j := 4) rfl zinX0 (by decide) zw_142 tyX0 tyX0_ok nmX0 rfl (by decide +kernel) (by decide +kernel)) (
  zcons (zk_aload_n (pc := 26) (j := 0) rfl (by decide +kernel)) (
  zcons (zk_getr (pc := 27) (ci := 0) (j := 1) rfl zinX0 (by decide) zw_139 (by decide +kernel)) (
  zcons (zk_aload_n (pc := 30) (j := 0) rfl (by decide +kernel)) (
  zcons (zk_get (pc := 31) (ci := 0) (j := 3) rfl zinX0 (by decide) zw_141 (by decide +kernel)) (
  zcons (zk_iaload (pc := 34) (by decide +kernel)) (
  zcons (zk_istore_n (pc := 35) (j := 2) rfl (by decide +kernel)) (
  zcons (zk_aload_n (pc := 36) (j := 0) rfl (by decide +kernel)) (
  zcons (zk_getr (pc := 37) (ci := 0) (j := 0) rfl zinX0 (by decide) zw_138 (by decide +kernel)) (
  zcons (zk_aload_n (pc := 40) (j := 0) rfl (by decide +kernel)) (
  zcons (zk_get (pc := 41) (ci := 0) (j := 3) rfl zinX0 (by decide) zw_141 (by decide +kernel)) (
  zcons (zk_iaload (pc := 44) (by decide +kernel)) (
  zcons (zk_table (pc := 45) (dflt := 122) (lw := 0) (hi := 3) (offs := #[31, 57, 75, 104]) (len := 31) (by decide +kernel) (by decide +kernel)) (
  zcons (zk_aload_n (pc := 76) (j := 1) rfl (by decide +kernel)) (
  zcons (zk_iload_n (pc := 77) (j := 2) rfl (by decide +kernel)) (
  zcons (zk_cvvN (pc := 78) 59 rfl (ci := 5) rfl zw_445 zw_447 zsel_X5_takeBack zds_X5_takeBack (by decide) zw_448 zw_3 (by decide +kernel)) (
  zcons (zk_aload_n (pc := 81) (j := 1) rfl (by decide +kernel)) (
  zcons (zk_dup (pc := 82) (by decide +kernel)) (
  zcons (zk_getN (pc := 83) (ci := 5) (j := 4) rfl zinX5 (by decide) zw_76 (by decide +kernel)) (
  zcons (zk_aload_n (pc := 86) (j := 0) rfl (by decide +kernel)) (
  zcons (zk_getr (pc := 87) (ci := 0) (j := 2) rfl zinX0 (by decide) zw_140 (by decide +kernel)) (
  zcons (zk_aload_n (pc := 90) (j := 0) rfl (by decide +kernel)) (
  zcons (zk_get (pc := 91) (ci := 0) (j := 3) rfl zinX0 (by decide) zw_141 (by decide +kernel)) (
  zcons (zk_iaload (pc := 94) (by decide +kernel)) (
  zcons (zk_isub (pc := 95) (by decide +kernel)) (
  zcons (zk_putN (pc := 96) (ci := 5) (j := 4) rfl zinX5 (by decide) zw_76 tyX5 tyX5_ok nmX5 rfl (by decide +kernel) (by decide +kernel)) (
  zcons (zk_goto (pc := 99) (off := 81) (by decide) (by decide +kernel)) (
  zcons (zk_aload_n (pc := 102) (j := 1) rfl (by decide +kernel)) (
  zcons (zk_iload_n (pc := 103) (j := 2) rfl (by decide +kernel)) (
  zcons (zk_aload_n (pc := 104) (j := 0) rfl (by decide +kernel)) (
  zcons (zk_getr (pc := 105) (ci := 0) (j := 2) rfl zinX0 (by decide) zw_140 (by decide +kernel)) (
  zcons (zk_aload_n (pc := 108) (j := 0) rfl (by decide +kernel)) (
  zcons (zk_get (pc := 109) (ci := 0) (j := 3) rfl zinX0 (by decide) zw_141 (by decide +kernel)) (
  zcons (zk_iaload (pc := 112) (by decide +kernel)) (
  zcons (zk_iconst (pc := 113) (z := 0) (by decide) (by decide +kernel)) (
  zcons (zk_cvvN (pc := 114) 58 rfl (ci := 5) rfl zw_449 zw_451 zsel_X5_sell zds_X5_sell (by decide) zw_452 zw_3 (by decide +kernel)) (
  zcons (zk_goto (pc := 117) (off := 63) (by decide) (by decide +kernel)) (
  zcons (zk_aload_n (pc := 120) (j := 1) rfl (by decide +kernel)) (
  zcons (zk_dup (pc := 121) (by decide +kernel)) (
  zcons (zk_getN (pc := 122) (ci := 5) (j := 5) rfl zinX5 (by decide) zw_79 (by decide +kernel)) (
  zcons (zk_iconst (pc := 125) (z := 1) (by decide) (by decide +kernel)) (
  zcons (zk_iload_n (pc := 126) (j := 2) rfl (by decide +kernel)) (
  zcons (zk_ishl (pc := 127) (by decide +kernel)) (
  zcons (zk_ior (pc := 128) (by decide +kernel)) (
  zcons (zk_putN (pc := 129) (ci := 5) (j := 5) rfl zinX5 (by decide) zw_79 tyX5 tyX5_ok nmX5 rfl (by decide +kernel) (by decide +kernel)) (
  zcons (zk_aload_n (pc := 132) (j := 1) rfl (by decide +kernel)) (
  zcons (zk_dup (pc := 133) (by decide +kernel)) (
  zcons (zk_getN (pc := 134) (ci := 5) (j := 6) rfl zinX5 (by decide) zw_83 (by decide +kernel)) (
  zcons (zk_iconst (pc := 137) (z := 1) (by decide) (by decide +kernel)) (
  zcons (zk_iload_n (pc := 138) (j := 2) rfl (by decide +kernel)) (
  zcons (zk_ishl (pc := 139) (by decide +kernel)) (
  zcons (zk_iconst (pc := 140) (z := (-1)) (by decide) (by decide +kernel)) (
  zcons (zk_ixor (pc := 141) (by decide +kernel)) (
  zcons (zk_iand (pc := 142) (by decide +kernel)) (
  zcons (zk_putN (pc := 143) (ci := 5) (j := 6) rfl zinX5 (by decide) zw_83 tyX5 tyX5_ok nmX5 rfl (by decide +kernel) (by decide +kernel)) (
  zcons (zk_goto (pc := 146) (off := 34) (by decide) (by decide +kernel)) (
  zcons (zk_aload_n (pc := 149) (j := 1) rfl (by decide +kernel)) (
  zcons (zk_getrN (pc := 150) (ci := 5) (j := 10) rfl zinX5 (by decide) zw_93 (by decide +kernel)) (
  zcons (zk_iload_n (pc := 153) (j := 2) rfl (by decide +kernel)) (
  zcons (zk_aload_n (pc := 154) (j := 0) rfl (by decide +kernel)) (
  zcons (zk_getr (pc := 155) (ci := 0) (j := 2) rfl zinX0 (by decide) zw_140 (by decide +kernel)) (
  zcons (zk_aload_n (pc := 158) (j := 0) rfl (by decide +kernel)) (
  zcons (zk_get (pc := 159) (ci := 0) (j := 3) rfl zinX0 (by decide) zw_141 (by decide +kernel)) (
  zcons (zk_iaload (pc := 162) (by decide +kernel)) (
  zcons (zk_iastore (pc := 163) (by decide +kernel)) (
  zcons (zk_goto (pc := 164) (off := 16) (by decide) (by decide +kernel)) (
  zcons (zk_aload_n (pc := 167) (j := 1) rfl (by decide +kernel)) (
  zcons (zk_aload_n (pc := 168) (j := 0) rfl (by decide +kernel)) (
  zcons (zk_getr (pc := 169) (ci := 0) (j := 2) rfl zinX0 (by decide) zw_140 (by decide +kernel)) (
  zcons (zk_aload_n (pc := 172) (j := 0) rfl (by decide +kernel)) (
  zcons (zk_get (pc := 173) (ci := 0) (j := 3) rfl zinX0 (by decide) zw_141 (by decide +kernel)) (
  zcons (zk_iaload (pc := 176) (by decide +kernel)) (
  zcons (zk_putN (pc := 177) (ci := 5) (j := 3) rfl zinX5 (by decide) zw_72 tyX5 tyX5_ok nmX5 rfl (by decide +kernel) (by decide +kernel)) (
  zcons (zk_retv (pc := 180) rfl (by decide +kernel)) (znil)))))))))))))))))))))))))))))))))))))))))))))))))))))))))))))))))))))))))))))))))))))))))
def tb_X1_isAlso : List (Nat × ZP) := [(0, zo_il 0 1), (1, zo_is 2 2), (2, zo_i 0 3), (3, zo_is 3 4), (4, zo_il 3 5), (5, zo_i 3 6), (6, zo_icge 27 9), (9, zo_il 2 10), (10, zo_il 1 11), (11, zo_icne 16 14), (14, zo_i 1 15), (15, zo_retz), (16, zo_il 2 17), (17, zo_csi 3 1 20), (20, zo_is 2 21), (21, zo_inc 3 1 24), (24, zo_goto 4), (27, zo_i 0 28), (28, zo_retz)]
def cu_X1_isAlso : List (Nat × List Bool) := [(4, [false, true, true, true])]
set_option maxRecDepth 100000 in
set_option maxHeartbeats 4000000 in
theorem ok_X1_isAlso : ∀ e ∈ tb_X1_isAlso, ZOK zmt cX1_isAlso RX1 3 e.1 e.2 :=
  zcons (zk_iload_n (pc := 0) (j := 0) rfl (by decide +kernel)) (
  zcons (zk_istore_n (pc := 1) (j := 2) rfl (by decide +kernel)) (
  zcons (zk_iconst (pc := 2) (z := 0) (by decide) (by decide +kernel)) (
  zcons (zk_istore_n (pc := 3) (j := 3) rfl (by decide +kernel)) (
  zcons (zk_iload_n (pc := 4) (j := 3) rfl (by decide +kernel)) (
  zcons (zk_iconst (pc := 5) (z := 3) (by decide) (by decide +kernel)) (
  zcons (zk_icge (pc := 6) (off := 21) (by decide) (by decide +kernel)) (
  zcons (zk_iload_n (pc := 9) (j := 2) rfl (by decide +kernel)) (
  zcons (zk_iload_n (pc := 10) (j := 1) rfl (by decide +kernel)) (
  zcons (zk_icne (pc := 11) (off := 5) (by decide) (by decide +kernel)) (
  zcons (zk_iconst (pc := 14) (z := 1) (by decide) (by decide +kernel)) (
  zcons (zk_retz (pc := 15) rfl (by decide +kernel)) (
  zcons (zk_iload_n (pc := 16) (j := 2) rfl (by decide +kernel)) (
  zcons (zk_csi (pc := 17) 3 rfl zw_866 zw_867 zds_X1_above (by decide) zw_868 zw_6 (by decide +kernel)) (
  zcons (zk_istore_n (pc := 20) (j := 2) rfl (by decide +kernel)) (
  zcons (zk_iinc (pc := 21) (z := 1) (by decide) (by decide +kernel)) (
  zcons (zk_goto (pc := 24) (off := (-20)) (by decide) (by decide +kernel)) (
  zcons (zk_iconst (pc := 27) (z := 0) (by decide) (by decide +kernel)) (
  zcons (zk_retz (pc := 28) rfl (by decide +kernel)) (znil)))))))))))))))))))
def tb_X1_above : List (Nat × ZP) := [(0, zo_il 0 1), (1, zo_iflt 18 4), (4, zo_il 0 5), (5, zo_i 6 7), (7, zo_icge 18 10), (10, zo_gst 1002 13), (13, zo_il 0 14), (14, zo_sald 1002 zABOVE 15), (15, zo_goto 19), (18, zo_i 0 19), (19, zo_reti)]
def cu_X1_above : List (Nat × List Bool) := []
set_option maxRecDepth 100000 in
set_option maxHeartbeats 4000000 in
theorem ok_X1_above : ∀ e ∈ tb_X1_above, ZOK zmt cX1_above RX1 1 e.1 e.2 :=
  zcons (zk_iload_n (pc := 0) (j := 0) rfl (by decide +kernel)) (
  zcons (zk_iflt (pc := 1) (off := 17) (by decide) (by decide +kernel)) (
  zcons (zk_iload_n (pc := 4) (j := 0) rfl (by decide +kernel)) (
  zcons (zk_bipush (pc := 5) (z := 6) (by decide) (by decide +kernel)) (
  zcons (zk_icge (pc := 7) (off := 11) (by decide) (by decide +kernel)) (
  zcons (zk_getstatic (pc := 10) (id := 1002) (C := "StampSheets$Asks") (nm := "ABOVE") (xs := zABOVE) (fun h => h.2.1) zw_869 (by decide +kernel)) (
  zcons (zk_iload_n (pc := 13) (j := 0) rfl (by decide +kernel)) (
  zcons (zk_sald (pc := 14) (id := 1002) (C := "StampSheets$Asks") (nm := "ABOVE") (xs := zABOVE) (fun h => h.2.1) (by decide +kernel)) (
  zcons (zk_goto (pc := 15) (off := 4) (by decide) (by decide +kernel)) (
  zcons (zk_iconst (pc := 18) (z := 0) (by decide) (by decide +kernel)) (
  zcons (zk_reti (pc := 19) rfl (by decide +kernel)) (znil)))))))))))
def tb_X1_answer : List (Nat × ZP) := [(0, zo_al 0 1), (1, zo_il 2 2), (2, zo_put 1 2 5), (5, zo_al 0 6), (6, zo_al 1 7), (7, zo_getr 5 9 10), (10, zo_il 2 11), (11, zo_iald 12), (12, zo_put 1 3 15), (15, zo_al 0 16), (16, zo_al 1 17), (17, zo_getr 5 10 20), (20, zo_il 2 21), (21, zo_iald 22), (22, zo_put 1 4 25), (25, zo_al 0 26), (26, zo_al 1 27), (27, zo_get 5 3 30), (30, zo_put 1 5 33), (33, zo_al 0 34), (34, zo_i 0 35), (35, zo_put 1 1 38), (38, zo_al 0 39), (39, zo_al 0 40), (40, zo_il 3 41), (41, zo_cvi 1 5 1 44), (44, zo_i 0 45), (45, zo_cvi 1 7 2 48), (48, zo_reti)]
def cu_X1_answer : List (Nat × List Bool) := []
set_option maxRecDepth 100000 in
set_option maxHeartbeats 4000000 in
theorem ok_X1_answer : ∀ e ∈ tb_X1_answer, ZOK zmt cX1_answer RX1 1 e.1 e.2 :=
  zcons (zk_aload_n (pc := 0) (j := 0) rfl (by decide +kernel)) (
  zcons (zk_iload_n (pc := 1) (j := 2) rfl (by decide +kernel)) (
  zcons (zk_put (pc := 2) (ci := 1) (j := 2) rfl zinX1 (by decide) zw_198 tyX1 tyX1_ok nmX1 rfl (by decide +kernel) (by decide +kernel)) (
  zcons (zk_aload_n (pc := 5) (j := 0) rfl (by decide +kernel)) (
  zcons (zk_aload_n (pc := 6) (j := 1) rfl (by decide +kernel)) (
  zcons (zk_getrN (pc := 7) (ci := 5) (j := 9) rfl zinX5 (by decide) zw_90 (by decide +kernel)) (
  zcons (zk_iload_n (pc := 10) (j := 2) rfl (by decide +kernel)) (
  zcons (zk_iaload (pc := 11) (by decide +kernel)) (
  zcons (zk_put (pc := 12) (ci := 1) (j := 3) rfl zinX1 (by decide) zw_199 tyX1 tyX1_ok nmX1 rfl (by decide +kernel) (by decide +kernel)) (
  zcons (zk_aload_n (pc := 15) (j := 0) rfl (by decide +kernel)) (
  zcons (zk_aload_n (pc := 16) (j := 1) rfl (by decide +kernel)) (
  zcons (zk_getrN (pc := 17) (ci := 5) (j := 10) rfl zinX5 (by decide) zw_94 (by decide +kernel)) (
  zcons (zk_iload_n (pc := 20) (j := 2) rfl (by decide +kernel)) (
  zcons (zk_iaload (pc := 21) (by decide +kernel)) (
  zcons (zk_put (pc := 22) (ci := 1) (j := 4) rfl zinX1 (by decide) zw_200 tyX1 tyX1_ok nmX1 rfl (by decide +kernel) (by decide +kernel)) (
  zcons (zk_aload_n (pc := 25) (j := 0) rfl (by decide +kernel)) (
  zcons (zk_aload_n (pc := 26) (j := 1) rfl (by decide +kernel)) (
  zcons (zk_getN (pc := 27) (ci := 5) (j := 3) rfl zinX5 (by decide) zw_73 (by decide +kernel)) (
  zcons (zk_put (pc := 30) (ci := 1) (j := 5) rfl zinX1 (by decide) zw_201 tyX1 tyX1_ok nmX1 rfl (by decide +kernel) (by decide +kernel)) (
  zcons (zk_aload_n (pc := 33) (j := 0) rfl (by decide +kernel)) (
  zcons (zk_iconst (pc := 34) (z := 0) (by decide) (by decide +kernel)) (
  zcons (zk_put (pc := 35) (ci := 1) (j := 1) rfl zinX1 (by decide) zw_196 tyX1 tyX1_ok nmX1 rfl (by decide +kernel) (by decide +kernel)) (
  zcons (zk_aload_n (pc := 38) (j := 0) rfl (by decide +kernel)) (
  zcons (zk_aload_n (pc := 39) (j := 0) rfl (by decide +kernel)) (
  zcons (zk_iload_n (pc := 40) (j := 3) rfl (by decide +kernel)) (
  zcons (zk_cvi (pc := 41) 5 rfl (ci := 1) rfl zw_879 zw_881 zsel_X1_bodyFor zds_X1_bodyFor (by decide) zw_882 zw_6 (by decide +kernel)) (
  zcons (zk_iconst (pc := 44) (z := 0) (by decide) (by decide +kernel)) (
  zcons (zk_cvi (pc := 45) 7 rfl (ci := 1) rfl zw_890 zw_892 zsel_X1_body zds_X1_body (by decide) zw_893 zw_6 (by decide +kernel)) (
  zcons (zk_reti (pc := 48) rfl (by decide +kernel)) (znil)))))))))))))))))))))))))))))
def tb_X1_bodyFor : List (Nat × ZP) := [(0, zo_al 0 1), (1, zo_get 1 3 4), (4, zo_is 2 5), (5, zo_il 1 6), (6, zo_il 2 7), (7, zo_csi 6 2 10), (10, zo_is 3 11), (11, zo_i 1 12), (12, zo_is 4 14), (14, zo_il 4 16), (16, zo_i 3 17), (17, zo_icge 41 20), (20, zo_il 3 21), (21, zo_ifne 41 24), (24, zo_il 2 25), (25, zo_csi 3 1 28), (28, zo_is 2 29), (29, zo_il 1 30), (30, zo_il 2 31), (31, zo_csi 6 2 34), (34, zo_is 3 35), (35, zo_inc 4 1 38), (38, zo_goto 14), (41, zo_il 3 42), (42, zo_reti)]
def cu_X1_bodyFor : List (Nat × List Bool) := [(14, [false, true, true, true, true])]
set_option maxRecDepth 100000 in
set_option maxHeartbeats 4000000 in
theorem ok_X1_bodyFor : ∀ e ∈ tb_X1_bodyFor, ZOK zmt cX1_bodyFor RX1 1 e.1 e.2 :=
  zcons (zk_aload_n (pc := 0) (j := 0) rfl (by decide +kernel)) (
  zcons (zk_get (pc := 1) (ci := 1) (j := 3) rfl zinX1 (by decide) zw_199 (by decide +kernel)) (
  zcons (zk_istore_n (pc := 4) (j := 2) rfl (by decide +kernel)) (
  zcons (zk_iload_n (pc := 5) (j := 1) rfl (by decide +kernel)) (
  zcons (zk_iload_n (pc := 6) (j := 2) rfl (by decide +kernel)) (
  zcons (zk_csi (pc := 7) 6 rfl zw_883 zw_884 zds_X1_bodyTold (by decide) zw_885 zw_6 (by decide +kernel)) (
  zcons (zk_istore_n (pc := 10) (j := 3) rfl (by decide +kernel)) (
  zcons (zk_iconst (pc := 11) (z := 1) (by decide) (by decide +kernel)) (
  zcons (zk_istore (pc := 12) (by decide +kernel)) (
  zcons (zk_iload (pc := 14) (by decide +kernel)) (
  zcons (zk_iconst (pc := 16) (z := 3) (by decide) (by decide +kernel)) (
  zcons (zk_icge (pc := 17) (off := 24) (by decide) (by decide +kernel)) (
  zcons (zk_iload_n (pc := 20) (j := 3) rfl (by decide +kernel)) (
  zcons (zk_ifne (pc := 21) (off := 20) (by decide) (by decide +kernel)) (
  zcons (zk_iload_n (pc := 24) (j := 2) rfl (by decide +kernel)) (
  zcons (zk_csi (pc := 25) 3 rfl zw_866 zw_867 zds_X1_above (by decide) zw_868 zw_6 (by decide +kernel)) (
  zcons (zk_istore_n (pc := 28) (j := 2) rfl (by decide +kernel)) (
  zcons (zk_iload_n (pc := 29) (j := 1) rfl (by decide +kernel)) (
  zcons (zk_iload_n (pc := 30) (j := 2) rfl (by decide +kernel)) (
  zcons (zk_csi (pc := 31) 6 rfl zw_883 zw_884 zds_X1_bodyTold (by decide) zw_885 zw_6 (by decide +kernel)) (
  zcons (zk_istore_n (pc := 34) (j := 3) rfl (by decide +kernel)) (
  zcons (zk_iinc (pc := 35) (z := 1) (by decide) (by decide +kernel)) (
  zcons (zk_goto (pc := 38) (off := (-24)) (by decide) (by decide +kernel)) (
  zcons (zk_iload_n (pc := 41) (j := 3) rfl (by decide +kernel)) (
  zcons (zk_reti (pc := 42) rfl (by decide +kernel)) (znil)))))))))))))))))))))))))
def tb_X1_bodyTold : List (Nat × ZP) := [(0, zo_il 1 1), (1, zo_iflt 10 4), (4, zo_il 1 5), (5, zo_i 6 7), (7, zo_iclt 12 10), (10, zo_i 0 11), (11, zo_reti), (12, zo_il 0 13), (13, zo_ifne 24 16), (16, zo_gst 1003 19), (19, zo_il 1 20), (20, zo_sald 1003 zSIZEB 21), (21, zo_goto 29), (24, zo_gst 1004 27), (27, zo_il 1 28), (28, zo_sald 1004 zMARKB 29), (29, zo_reti)]
def cu_X1_bodyTold : List (Nat × List Bool) := []
set_option maxRecDepth 100000 in
set_option maxHeartbeats 4000000 in
theorem ok_X1_bodyTold : ∀ e ∈ tb_X1_bodyTold, ZOK zmt cX1_bodyTold RX1 1 e.1 e.2 :=
  zcons (zk_iload_n (pc := 0) (j := 1) rfl (by decide +kernel)) (
  zcons (zk_iflt (pc := 1) (off := 9) (by decide) (by decide +kernel)) (
  zcons (zk_iload_n (pc := 4) (j := 1) rfl (by decide +kernel)) (
  zcons (zk_bipush (pc := 5) (z := 6) (by decide) (by decide +kernel)) (
  zcons (zk_iclt (pc := 7) (off := 5) (by decide) (by decide +kernel)) (
  zcons (zk_iconst (pc := 10) (z := 0) (by decide) (by decide +kernel)) (
  zcons (zk_reti (pc := 11) rfl (by decide +kernel)) (
  zcons (zk_iload_n (pc := 12) (j := 0) rfl (by decide +kernel)) (
  zcons (zk_ifne (pc := 13) (off := 11) (by decide) (by decide +kernel)) (
  zcons (zk_getstatic (pc := 16) (id := 1003) (C := "StampSheets$Asks") (nm := "SIZE_BODIES") (xs := zSIZEB) (fun h => h.2.2.1) zw_886 (by decide +kernel)) (
  zcons (zk_iload_n (pc := 19) (j := 1) rfl (by decide +kernel)) (
  zcons (zk_sald (pc := 20) (id := 1003) (C := "StampSheets$Asks") (nm := "SIZE_BODIES") (xs := zSIZEB) (fun h => h.2.2.1) (by decide +kernel)) (
  zcons (zk_goto (pc := 21) (off := 8) (by decide) (by decide +kernel)) (
  zcons (zk_getstatic (pc := 24) (id := 1004) (C := "StampSheets$Asks") (nm := "MARK_BODIES") (xs := zMARKB) (fun h => h.2.2.2) zw_888 (by decide +kernel)) (
  zcons (zk_iload_n (pc := 27) (j := 1) rfl (by decide +kernel)) (
  zcons (zk_sald (pc := 28) (id := 1004) (C := "StampSheets$Asks") (nm := "MARK_BODIES") (xs := zMARKB) (fun h => h.2.2.2) (by decide +kernel)) (
  zcons (zk_reti (pc := 29) rfl (by decide +kernel)) (znil)))))))))))))))))
def tb_X1_body : List (Nat × ZP) := [(0, zo_il 2 1), (1, zo_i 16 3), (3, zo_icle 8 6), (6, zo_i 0 7), (7, zo_reti), (8, zo_al 0 9), (9, zo_il 1 10), (10, zo_cvv 1 8 1 13), (13, zo_il 2 14), (14, zo_i 1 15), (15, zo_bin (· + ·) 16), (16, zo_is 3 17), (17, zo_il 1 18), (18, zo_sw [(10, 92), (11, 97), (12, 116), (13, 125), (14, 136), (15, 205), (16, 205), (17, 205), (18, 205), (19, 205), (20, 146), (21, 151), (22, 164), (23, 176), (24, 195)] 205), (92, zo_al 0 93), (93, zo_get 1 4 96), (96, zo_reti), (97, zo_al 0 98), (98, zo_i 10 100), (100, zo_il 3 101), (101, zo_cvi 1 7 2 104), (104, zo_al 0 105), (105, zo_al 0 106), (106, zo_i 1 107), (107, zo_cvi 1 5 1 110), (110, zo_il 3 111), (111, zo_cvi 1 7 2 114), (114, zo_bin (· + ·) 115), (115, zo_reti), (116, zo_al 0 117), (117, zo_i 11 119), (119, zo_il 3 120), (120, zo_cvi 1 7 2 123), (123, zo_un (fun x => -x) 124), (124, zo_reti), (125, zo_al 0 126), (126, zo_i 10 128), (128, zo_il 3 129), (129, zo_cvi 1 7 2 132), (132, zo_i 100 134), (134, zo_bin (· - ·) 135), (135, zo_reti), (136, zo_i 2 137), (137, zo_al 0 138), (138, zo_i 13 140), (140, zo_il 3 141), (141, zo_cvi 1 7 2 144), (144, zo_bin (· * ·) 145), (145, zo_reti), (146, zo_al 0 147), (147, zo_get 1 2 150), (150, zo_reti), (151, zo_al 0 152), (152, zo_i 20 154), (154, zo_il 3 155), (155, zo_cvi 1 7 2 158), (158, zo_al 0 159), (159, zo_get 1 5 162), (162, zo_bin (· + ·) 163), (163, zo_reti), (164, zo_al 0 165), (165, zo_i 21 167), (167, zo_il 3 168), (168, zo_cvi 1 7 2 171), (171, zo_i 1000 174), (174, zo_bin (· - ·) 175), (175, zo_reti), (176, zo_al 0 177), (177, zo_i 20 179), (179, zo_il 3 180), (180, zo_cvi 1 7 2 183), (183, zo_al 0 184), (184, zo_al 0 185), (185, zo_i 0 186), (186, zo_cvi 1 5 1 189), (189, zo_il 3 190), (190, zo_cvi 1 7 2 193), (193, zo_bin (· - ·) 194), (194, zo_reti), (195, zo_i 2 196), (196, zo_al 0 197), (197, zo_i 21 199), (199, zo_il 3 200), (200, zo_cvi 1 7 2 203), (203, zo_bin (· * ·) 204), (204, zo_reti), (205, zo_i 0 206), (206, zo_reti)]
def cu_X1_body : List (Nat × List Bool) := []
set_option maxRecDepth 100000 in
set_option maxHeartbeats 4000000 in
theorem ok_X1_body : ∀ e ∈ tb_X1_body, ZOK zmt cX1_body RX1 1 e.1 e.2 :=
  zcons (zk_iload_n (pc := 0) (j := 2) rfl (by decide +kernel)) (
  zcons (zk_bipush (pc := 1) (z := 16) (by decide) (by decide +kernel)) (
  zcons (zk_icle (pc := 3) (off := 5) (by decide) (by decide +kernel)) (
  zcons (zk_iconst (pc := 6) (z := 0) (by decide) (by decide +kernel)) (
  zcons (zk_reti (pc := 7) rfl (by decide +kernel)) (
  zcons (zk_aload_n (pc := 8) (j := 0) rfl (by decide +kernel)) (
  zcons (zk_iload_n (pc := 9) (j := 1) rfl (by decide +kernel)) (
  zcons (zk_cvv (pc := 10) 8 rfl (ci := 1) rfl zw_894 zw_896 zsel_X1_leave zds_X1_leave (by decide) zw_897 zw_6 (by decide +kernel)) (
  zcons (zk_iload_n (pc := 13) (j := 2) rfl (by decide +kernel)) (
  zcons (zk_iconst (pc := 14) (z := 1) (by decide) (by decide +kernel)) (
  zcons (zk_iadd (pc := 15) (by decide +kernel)) (
  zcons (zk_istore_n (pc := 16) (j := 3) rfl (by decide +kernel)) (
  zcons (zk_iload_n (pc := 17) (j := 1) rfl (by decide +kernel)) (
  zcons (zk_table (pc := 18) (dflt := 187) (lw := 10) (hi := 24) (offs := #[74, 79, 98, 107, 118, 187, 187, 187, 187, 187, 128, 133, 146, 158, 177]) (len := 74) (by decide +kernel) (by decide +kernel)) (
  zcons (zk_aload_n (pc := 92) (j := 0) rfl (by decide +kernel)) (
  zcons (zk_get (pc := 93) (ci := 1) (j := 4) rfl zinX1 (by decide) zw_200 (by decide +kernel)) (
  zcons (zk_reti (pc := 96) rfl (by decide +kernel)) (
  zcons (zk_aload_n (pc := 97) (j := 0) rfl (by decide +kernel)) (
  zcons (zk_bipush (pc := 98) (z := 10) (by decide) (by decide +kernel)) (
  zcons (zk_iload_n (pc := 100) (j := 3) rfl (by decide +kernel)) (
  zcons (zk_cvi (pc := 101) 7 rfl (ci := 1) rfl zw_890 zw_892 zsel_X1_body zds_X1_body (by decide) zw_893 zw_6 (by decide +kernel)) (
  zcons (zk_aload_n (pc := 104) (j := 0) rfl (by decide +kernel)) (
  zcons (zk_aload_n (pc := 105) (j := 0) rfl (by decide +kernel)) (
  zcons (zk_iconst (pc := 106) (z := 1) (by decide) (by decide +kernel)) (
  zcons (zk_cvi (pc := 107) 5 rfl (ci := 1) rfl zw_879 zw_881 zsel_X1_bodyFor zds_X1_bodyFor (by decide) zw_882 zw_6 (by decide +kernel)) (
  zcons (zk_iload_n (pc := 110) (j := 3) rfl (by decide +kernel)) (
  zcons (zk_cvi (pc := 111) 7 rfl (ci := 1) rfl zw_890 zw_892 zsel_X1_body zds_X1_body (by decide) zw_893 zw_6 (by decide +kernel)) (
  zcons (zk_iadd (pc := 114) (by decide +kernel)) (
  zcons (zk_reti (pc := 115) rfl (by decide +kernel)) (
  zcons (zk_aload_n (pc := 116) (j := 0) rfl (by decide +kernel)) (
  zcons (zk_bipush (pc := 117) (z := 11) (by decide) (by decide +kernel)) (
  zcons (zk_iload_n (pc := 119) (j := 3) rfl (by decide +kernel)) (
  zcons (zk_cvi (pc := 120) 7 rfl (ci := 1) rfl zw_890 zw_892 zsel_X1_body zds_X1_body (by decide) zw_893 zw_6 (by decide +kernel)) (
  zcons (zk_ineg (pc := 123) (by decide +kernel)) (
  zcons (zk_reti (pc := 124) rfl (by decide +kernel)) (
  zcons (zk_aload_n (pc := 125) (j := 0) rfl (by decide +kernel)) (
  zcons (zk_bipush (pc := 126) (z := 10) (by decide) (by decide +kernel)) (
  zcons (zk_iload_n (pc := 128) (j := 3) rfl (by decide +kernel)) (
  zcons (zk_cvi (pc := 129) 7 rfl (ci := 1) rfl zw_890 zw_892 zsel_X1_body zds_X1_body (by decide) zw_893 zw_6 (by decide +kernel)) (
  zcons (zk_bipush (pc := 132) (z := 100) (by decide) (by decide +kernel)) (
  zcons (zk_isub (pc := 134) (by decide +kernel)) (
  zcons (zk_reti (pc := 135) rfl (by decide +kernel)) (
  zcons (zk_iconst (pc := 136) (z := 2) (by decide) (by decide +kernel)) (
  zcons (zk_aload_n (pc := 137) (j := 0) rfl (by decide +kernel)) (
  zcons (zk_bipush (pc := 138) (z := 13) (by decide) (by decide +kernel)) (
  zcons (zk_iload_n (pc := 140) (j := 3) rfl (by decide +kernel)) (
  zcons (zk_cvi (pc := 141) 7 rfl (ci := 1) rfl zw_890 zw_892 zsel_X1_body zds_X1_body (by decide) zw_893 zw_6 (by decide +kernel)) (
  zcons (zk_imul (pc := 144) (by decide +kernel)) (
  zcons (zk_reti (pc := 145) rfl (by decide +kernel)) (
  zcons (zk_aload_n (pc := 146) (j := 0) rfl (by decide +kernel)) (
  zcons (zk_get (pc := 147) (ci := 1) (j := 2) rfl zinX1 (by decide) zw_198 (by decide +kernel)) (
  zcons (zk_reti (pc := 150) rfl (by decide +kernel)) (
  zcons (zk_aload_n (pc := 151) (j := 0) rfl (by decide +kernel)) (
  zcons (zk_bipush (pc := 152) (z := 20) (by decide) (by decide +kernel)) (
  zcons (zk_iload_n (pc := 154) (j := 3) rfl (by decide +kernel)) (
  zcons (zk_cvi (pc := 155) 7 rfl (ci := 1) rfl zw_890 zw_892 zsel_X1_body zds_X1_body (by decide) zw_893 zw_6 (by decide +kernel)) (
  zcons (zk_aload_n (pc := 158) (j := 0) rfl (by decide +kernel)) (
  zcons (zk_get (pc := 159) (ci := 1) (j := 5) rfl zinX1 (by decide) zw_201 (by decide +kernel)) (
  zcons (zk_iadd (pc := 162) (by decide +kernel)) (
  zcons (zk_reti (pc := 163) rfl (by decide +kernel)) (
  zcons (zk_aload_n (pc := 164) (j := 0) rfl (by decide +kernel)) (
  zcons (zk_bipush (pc := 165) (z := 21) (by decide) (by decide +kernel)) (
  zcons (zk_iload_n (pc := 167) (j := 3) rfl (by decide +kernel)) (
  zcons (zk_cvi (pc := 168) 7 rfl (ci := 1) rfl zw_890 zw_892 zsel_X1_body zds_X1_body (by decide) zw_893 zw_6 (by decide +kernel)) (
  zcons (zk_sipush (pc := 171) (z := 1000) (by decide) (by decide +kernel)) (
  zcons (zk_isub (pc := 174) (by decide +kernel)) (
  zcons (zk_reti (pc := 175) rfl (by decide +kernel)) (
  zcons (zk_aload_n (pc := 176) (j := 0) rfl (by decide +kernel)) (
  zcons (zk_bipush (pc := 177) (z := 20) (by decide) (by decide +kernel)) (
  zcons (zk_iload_n (pc := 179) (j := 3) rfl (by decide +kernel)) (
  zcons (zk_cvi (pc := 180) 7 rfl (ci := 1) rfl zw_890 zw_892 zsel_X1_body zds_X1_body (by decide) zw_893 zw_6 (by decide +kernel)) (
  zcons (zk_aload_n (pc := 183) (j := 0) rfl (by decide +kernel)) (
  zcons (zk_aload_n (pc := 184) (j := 0) rfl (by decide +kernel)) (
  zcons (zk_iconst (pc := 185) (z := 0) (by decide) (by decide +kernel)) (
  zcons (zk_cvi (pc := 186) 5 rfl (ci := 1) rfl zw_879 zw_881 zsel_X1_bodyFor zds_X1_bodyFor (by decide) zw_882 zw_6 (by decide +kernel)) (
  zcons (zk_iload_n (pc := 189) (j := 3) rfl (by decide +kernel)) (
  zcons (zk_cvi (pc := 190) 7 rfl (ci := 1) rfl zw_890 zw_892 zsel_X1_body zds_X1_body (by decide) zw_893 zw_6 (by decide +kernel)) (
  zcons (zk_isub (pc := 193) (by decide +kernel)) (
  zcons (zk_reti (pc := 194) rfl (by decide +kernel)) (
  zcons (zk_iconst (pc := 195) (z := 2) (by decide) (by decide +kernel)) (
  zcons (zk_aload_n (pc := 196) (j := 0) rfl (by decide +kernel)) (
  zcons (zk_bipush (pc := 197) (z := 21) (by decide) (by decide +kernel)) (
  zcons (zk_iload_n (pc := 199) (j := 3) rfl (by decide +kernel)) (
  zcons (zk_cvi (pc := 200) 7 rfl (ci := 1) rfl zw_890 zw_892 zsel_X1_body zds_X1_body (by decide) zw_893 zw_6 (by decide +kernel)) (
  zcons (zk_imul (pc := 203) (by decide +kernel)) (
  zcons (zk_reti (pc := 204) rfl (by decide +kernel)) (
  zcons (zk_iconst (pc := 205) (z := 0) (by decide) (by decide +kernel)) (
  zcons (zk_reti (pc := 206) rfl (by decide +kernel)) (znil))))))))))))))))))))))))))))))))))))))))))))))))))))))))))))))))))))))))))))))))))))))))
def tb_X1_leave : List (Nat × ZP) := [(0, zo_al 0 1), (1, zo_get 1 1 4), (4, zo_i 16 6), (6, zo_icge 29 9), (9, zo_al 0 10), (10, zo_getr 1 0 13), (13, zo_al 0 14), (14, zo_get 1 1 17), (17, zo_il 1 18), (18, zo_iast 19), (19, zo_al 0 20), (20, zo_dup 21), (21, zo_get 1 1 24), (24, zo_i 1 25), (25, zo_bin (· + ·) 26), (26, zo_put 1 1 29), (29, zo_retv)]
def cu_X1_leave : List (Nat × List Bool) := []
set_option maxRecDepth 100000 in
set_option maxHeartbeats 4000000 in
theorem ok_X1_leave : ∀ e ∈ tb_X1_leave, ZOK zmt cX1_leave RX1 0 e.1 e.2 :=
  zcons (zk_aload_n (pc := 0) (j := 0) rfl (by decide +kernel)) (
  zcons (zk_get (pc := 1) (ci := 1) (j := 1) rfl zinX1 (by decide) zw_196 (by decide +kernel)) (
  zcons (zk_bipush (pc := 4) (z := 16) (by decide) (by decide +kernel)) (
  zcons (zk_icge (pc := 6) (off := 23) (by decide) (by decide +kernel)) (
  zcons (zk_aload_n (pc := 9) (j := 0) rfl (by decide +kernel)) (
  zcons (zk_getr (pc := 10) (ci := 1) (j := 0) rfl zinX1 (by decide) zw_194 (by decide +kernel)) (
  zcons (zk_aload_n (pc := 13) (j := 0) rfl (by decide +kernel)) (
  zcons (zk_get (pc := 14) (ci := 1) (j := 1) rfl zinX1 (by decide) zw_196 (by decide +kernel)) (
  zcons (zk_iload_n (pc := 17) (j := 1) rfl (by decide +kernel)) (
  zcons (zk_iastore (pc := 18) (by decide +kernel)) (
  zcons (zk_aload_n (pc := 19) (j := 0) rfl (by decide +kernel)) (
  zcons (zk_dup (pc := 20) (by decide +kernel)) (
  zcons (zk_get (pc := 21) (ci := 1) (j := 1) rfl zinX1 (by decide) zw_196 (by decide +kernel)) (
  zcons (zk_iconst (pc := 24) (z := 1) (by decide) (by decide +kernel)) (
  zcons (zk_iadd (pc := 25) (by decide +kernel)) (
  zcons (zk_put (pc := 26) (ci := 1) (j := 1) rfl zinX1 (by decide) zw_196 tyX1 tyX1_ok nmX1 rfl (by decide +kernel) (by decide +kernel)) (
  zcons (zk_retv (pc := 29) rfl (by decide +kernel)) (znil)))))))))))))))))
def tb_X3_append : List (Nat × ZP) := [(0, zo_al 0 1), (1, zo_get 3 1 4), (4, zo_i 120 6), (6, zo_iclt 11 9), (9, zo_i 0 10), (10, zo_retz), (11, zo_al 0 12), (12, zo_getr 3 0 15), (15, zo_al 0 16), (16, zo_get 3 1 19), (19, zo_il 1 20), (20, zo_iast 21), (21, zo_al 0 22), (22, zo_dup 23), (23, zo_get 3 1 26), (26, zo_i 1 27), (27, zo_bin (· + ·) 28), (28, zo_put 3 1 31), (31, zo_i 1 32), (32, zo_retz)]
def cu_X3_append : List (Nat × List Bool) := []
set_option maxRecDepth 100000 in
set_option maxHeartbeats 4000000 in
theorem ok_X3_append : ∀ e ∈ tb_X3_append, ZOK zmt cX3_append RX3 3 e.1 e.2 :=
  zcons (zk_aload_n (pc := 0) (j := 0) rfl (by decide +kernel)) (
  zcons (zk_get (pc := 1) (ci := 3) (j := 1) rfl zinX3 (by decide) zw_31 (by decide +kernel)) (
  zcons (zk_bipush (pc := 4) (z := 120) (by decide) (by decide +kernel)) (
  zcons (zk_iclt (pc := 6) (off := 5) (by decide) (by decide +kernel)) (
  zcons (zk_iconst (pc := 9) (z := 0) (by decide) (by decide +kernel)) (
  zcons (zk_retz (pc := 10) rfl (by decide +kernel)) (
  zcons (zk_aload_n (pc := 11) (j := 0) rfl (by decide +kernel)) (
  zcons (zk_getr (pc := 12) (ci := 3) (j := 0) rfl zinX3 (by decide) zw_30 (by decide +kernel)) (
  zcons (zk_aload_n (pc := 15) (j := 0) rfl (by decide +kernel)) (
  zcons (zk_get (pc := 16) (ci := 3) (j := 1) rfl zinX3 (by decide) zw_31 (by decide +kernel)) (
  zcons (zk_iload_n (pc := 19) (j := 1) rfl (by decide +kernel)) (
  zcons (zk_iastore (pc := 20) (by decide +kernel)) (
  zcons (zk_aload_n (pc := 21) (j := 0) rfl (by decide +kernel)) (
  zcons (zk_dup (pc := 22) (by decide +kernel)) (
  zcons (zk_get (pc := 23) (ci := 3) (j := 1) rfl zinX3 (by decide) zw_31 (by decide +kernel)) (
  zcons (zk_iconst (pc := 26) (z := 1) (by decide) (by decide +kernel)) (
  zcons (zk_iadd (pc := 27) (by decide +kernel)) (
  zcons (zk_put (pc := 28) (ci := 3) (j := 1) rfl zinX3 (by decide) zw_31 tyX3 tyX3_ok nmX3 rfl (by decide +kernel) (by decide +kernel)) (
  zcons (zk_iconst (pc := 31) (z := 1) (by decide) (by decide +kernel)) (
  zcons (zk_retz (pc := 32) rfl (by decide +kernel)) (znil))))))))))))))))))))
def tb_X3_read : List (Nat × ZP) := [(0, zo_al 0 1), (1, zo_i 0 2), (2, zo_put 3 2 5), (5, zo_al 0 6), (6, zo_cvv 3 47 0 9), (9, zo_al 0 10), (10, zo_al 1 11), (11, zo_cvi 3 40 1 14), (14, zo_ifeq 37 17), (17, zo_al 0 18), (18, zo_al 1 19), (19, zo_cvi 3 41 1 22), (22, zo_ifeq 37 25), (25, zo_al 0 26), (26, zo_al 1 27), (27, zo_cvi 3 42 1 30), (30, zo_ifeq 37 33), (33, zo_i 1 34), (34, zo_goto 38), (37, zo_i 0 38), (38, zo_is 2 39), (39, zo_al 0 40), (40, zo_i 0 41), (41, zo_put 3 1 44), (44, zo_il 2 45), (45, zo_retz)]
def cu_X3_read : List (Nat × List Bool) := []
set_option maxRecDepth 100000 in
set_option maxHeartbeats 4000000 in
theorem ok_X3_read : ∀ e ∈ tb_X3_read, ZOK zmt cX3_read RX3 3 e.1 e.2 :=
  zcons (zk_aload_n (pc := 0) (j := 0) rfl (by decide +kernel)) (
  zcons (zk_iconst (pc := 1) (z := 0) (by decide) (by decide +kernel)) (
  zcons (zk_put (pc := 2) (ci := 3) (j := 2) rfl zinX3 (by decide) zw_33 tyX3 tyX3_ok nmX3 rfl (by decide +kernel) (by decide +kernel)) (
  zcons (zk_aload_n (pc := 5) (j := 0) rfl (by decide +kernel)) (
  zcons (zk_cvv (pc := 6) 47 rfl (ci := 3) rfl zw_349 zw_351 zsel_X3_step zds_X3_step (by decide) zw_352 zw_2 (by decide +kernel)) (
  zcons (zk_aload_n (pc := 9) (j := 0) rfl (by decide +kernel)) (
  zcons (zk_aload_n (pc := 10) (j := 1) rfl (by decide +kernel)) (
  zcons (zk_cvi (pc := 11) 40 rfl (ci := 3) rfl zw_360 zw_362 zsel_X3_readLaw zds_X3_readLaw (by decide) zw_363 zw_2 (by decide +kernel)) (
  zcons (zk_ifeq (pc := 14) (off := 23) (by decide) (by decide +kernel)) (
  zcons (zk_aload_n (pc := 17) (j := 0) rfl (by decide +kernel)) (
  zcons (zk_aload_n (pc := 18) (j := 1) rfl (by decide +kernel)) (
  zcons (zk_cvi (pc := 19) 41 rfl (ci := 3) rfl zw_388 zw_390 zsel_X3_readStamps zds_X3_readStamps (by decide) zw_391 zw_2 (by decide +kernel)) (
  zcons (zk_ifeq (pc := 22) (off := 15) (by decide) (by decide +kernel)) (
  zcons (zk_aload_n (pc := 25) (j := 0) rfl (by decide +kernel)) (
  zcons (zk_aload_n (pc := 26) (j := 1) rfl (by decide +kernel)) (
  zcons (zk_cvi (pc := 27) 42 rfl (ci := 3) rfl zw_400 zw_402 zsel_X3_readCustomers zds_X3_readCustomers (by decide) zw_403 zw_2 (by decide +kernel)) (
  zcons (zk_ifeq (pc := 30) (off := 7) (by decide) (by decide +kernel)) (
  zcons (zk_iconst (pc := 33) (z := 1) (by decide) (by decide +kernel)) (
  zcons (zk_goto (pc := 34) (off := 4) (by decide) (by decide +kernel)) (
  zcons (zk_iconst (pc := 37) (z := 0) (by decide) (by decide +kernel)) (
  zcons (zk_istore_n (pc := 38) (j := 2) rfl (by decide +kernel)) (
  zcons (zk_aload_n (pc := 39) (j := 0) rfl (by decide +kernel)) (
  zcons (zk_iconst (pc := 40) (z := 0) (by decide) (by decide +kernel)) (
  zcons (zk_put (pc := 41) (ci := 3) (j := 1) rfl zinX3 (by decide) zw_31 tyX3 tyX3_ok nmX3 rfl (by decide +kernel) (by decide +kernel)) (
  zcons (zk_iload_n (pc := 44) (j := 2) rfl (by decide +kernel)) (
  zcons (zk_retz (pc := 45) rfl (by decide +kernel)) (znil))))))))))))))))))))))))))
def tb_X3_readLaw : List (Nat × ZP) := [(0, zo_al 0 1), (1, zo_i 119 3), (3, zo_cvi 3 44 1 6), (6, zo_ifne 11 9), (9, zo_i 0 10), (10, zo_retz), (11, zo_al 0 12), (12, zo_i 1 13), (13, zo_i 6 15), (15, zo_cvi 3 45 2 18), (18, zo_is 2 19), (19, zo_il 2 20), (20, zo_i 1 21), (21, zo_iclt 33 24), (24, zo_al 0 25), (25, zo_i 44 27), (27, zo_cvi 3 44 1 30), (30, zo_ifne 35 33), (33, zo_i 0 34), (34, zo_retz), (35, zo_al 0 36), (36, zo_i 1 37), (37, zo_i 6 39), (39, zo_i 10 41), (41, zo_il 2 42), (42, zo_dv (· / ·) 43), (43, zo_csi 235 2 46), (46, zo_cvi 3 45 2 49), (49, zo_is 3 50), (50, zo_il 3 51), (51, zo_i 1 52), (52, zo_iclt 64 55), (55, zo_al 0 56), (56, zo_i 44 58), (58, zo_cvi 3 44 1 61), (61, zo_ifne 66 64), (64, zo_i 0 65), (65, zo_retz), (66, zo_al 0 67), (67, zo_i 0 68), (68, zo_i 9 70), (70, zo_cvi 3 45 2 73), (73, zo_is 4 75), (75, zo_il 4 77), (77, zo_iflt 89 80), (80, zo_al 0 81), (81, zo_i 59 83), (83, zo_cvi 3 44 1 86), (86, zo_ifne 91 89), (89, zo_i 0 90), (90, zo_retz), (91, zo_al 1 92), (92, zo_il 2 93), (93, zo_il 3 94), (94, zo_il 4 96), (96, zo_cvv 5 53 3 99), (99, zo_i 1 100), (100, zo_retz)]
def cu_X3_readLaw : List (Nat × List Bool) := []
set_option maxRecDepth 100000 in
set_option maxHeartbeats 4000000 in
theorem ok_X3_readLaw : ∀ e ∈ tb_X3_readLaw, ZOK zmt cX3_readLaw RX3 3 e.1 e.2 :=
  zcons (zk_aload_n (pc := 0) (j := 0) rfl (by decide +kernel)) (
  zcons (zk_bipush (pc := 1) (z := 119) (by decide) (by decide +kernel)) (
  zcons (zk_cvi (pc := 3) 44 rfl (ci := 3) rfl zw_364 zw_366 zsel_X3_takes zds_X3_takes (by decide) zw_367 zw_2 (by decide +kernel)) (
  zcons (zk_ifne (pc := 6) (off := 5) (by decide) (by decide +kernel)) (
  zcons (zk_iconst (pc := 9) (z := 0) (by decide) (by decide +kernel)) (
  zcons (zk_retz (pc := 10) rfl (by decide +kernel)) (
  zcons (zk_aload_n (pc := 11) (j := 0) rfl (by decide +kernel)) (
  zcons (zk_iconst (pc := 12) (z := 1) (by decide) (by decide +kernel)) (
  zcons (zk_bipush (pc := 13) (z := 6) (by decide) (by decide +kernel)) (
  zcons (zk_cvi (pc := 15) 45 rfl (ci := 3) rfl zw_372 zw_374 zsel_X3_takeNumber zds_X3_takeNumber (by decide) zw_375 zw_2 (by decide +kernel)) (
  zcons (zk_istore_n (pc := 18) (j := 2) rfl (by decide +kernel)) (
  zcons (zk_iload_n (pc := 19) (j := 2) rfl (by decide +kernel)) (
  zcons (zk_iconst (pc := 20) (z := 1) (by decide) (by decide +kernel)) (
  zcons (zk_iclt (pc := 21) (off := 12) (by decide) (by decide +kernel)) (
  zcons (zk_aload_n (pc := 24) (j := 0) rfl (by decide +kernel)) (
  zcons (zk_bipush (pc := 25) (z := 44) (by decide) (by decide +kernel)) (
  zcons (zk_cvi (pc := 27) 44 rfl (ci := 3) rfl zw_364 zw_366 zsel_X3_takes zds_X3_takes (by decide) zw_367 zw_2 (by decide +kernel)) (
  zcons (zk_ifne (pc := 30) (off := 5) (by decide) (by decide +kernel)) (
  zcons (zk_iconst (pc := 33) (z := 0) (by decide) (by decide +kernel)) (
  zcons (zk_retz (pc := 34) rfl (by decide +kernel)) (
  zcons (zk_aload_n (pc := 35) (j := 0) rfl (by decide +kernel)) (
  zcons (zk_iconst (pc := 36) (z := 1) (by decide) (by decide +kernel)) (
  zcons (zk_bipush (pc := 37) (z := 6) (by decide) (by decide +kernel)) (
  zcons (zk_bipush (pc := 39) (z := 10) (by decide) (by decide +kernel)) (
  zcons (zk_iload_n (pc := 41) (j := 2) rfl (by decide +kernel)) (
  zcons (zk_idiv (pc := 42) (by decide +kernel)) (
  zcons (zk_csi (pc := 43) 235 rfl zw_376 zw_377 zds_J9_min_7cf53 (by decide) zw_378 zw_12 (by decide +kernel)) (
  zcons (zk_cvi (pc := 46) 45 rfl (ci := 3) rfl zw_372 zw_374 zsel_X3_takeNumber zds_X3_takeNumber (by decide) zw_375 zw_2 (by decide +kernel)) (
  zcons (zk_istore_n (pc := 49) (j := 3) rfl (by decide +kernel)) (
  zcons (zk_iload_n (pc := 50) (j := 3) rfl (by decide +kernel)) (
  zcons (zk_iconst (pc := 51) (z := 1) (by decide) (by decide +kernel)) (
  zcons (zk_iclt (pc := 52) (off := 12) (by decide) (by decide +kernel)) (
  zcons (zk_aload_n (pc := 55) (j := 0) rfl (by decide +kernel)) (
  zcons (zk_bipush (pc := 56) (z := 44) (by decide) (by decide +kernel)) (
  zcons (zk_cvi (pc := 58) 44 rfl (ci := 3) rfl zw_364 zw_366 zsel_X3_takes zds_X3_takes (by decide) zw_367 zw_2 (by decide +kernel)) (
  zcons (zk_ifne (pc := 61) (off := 5) (by decide) (by decide +kernel)) (
  zcons (zk_iconst (pc := 64) (z := 0) (by decide) (by decide +kernel)) (
  zcons (zk_retz (pc := 65) rfl (by decide +kernel)) (
  zcons (zk_aload_n (pc := 66) (j := 0) rfl (by decide +kernel)) (
  zcons (zk_iconst (pc := 67) (z := 0) (by decide) (by decide +kernel)) (
  zcons (zk_bipush (pc := 68) (z := 9) (by decide) (by decide +kernel)) (
  zcons (zk_cvi (pc := 70) 45 rfl (ci := 3) rfl zw_372 zw_374 zsel_X3_takeNumber zds_X3_takeNumber (by decide) zw_375 zw_2 (by decide +kernel)) (
  zcons (zk_istore (pc := 73) (by decide +kernel)) (
  zcons (zk_iload (pc := 75) (by decide +kernel)) (
  zcons (zk_iflt (pc := 77) (off := 12) (by decide) (by decide +kernel)) (
  zcons (zk_aload_n (pc := 80) (j := 0) rfl (by decide +kernel)) (
  zcons (zk_bipush (pc := 81) (z := 59) (by decide) (by decide +kernel)) (
  zcons (zk_cvi (pc := 83) 44 rfl (ci := 3) rfl zw_364 zw_366 zsel_X3_takes zds_X3_takes (by decide) zw_367 zw_2 (by decide +kernel)) (
  zcons (zk_ifne (pc := 86) (off := 5) (by decide) (by decide +kernel)) (
  zcons (zk_iconst (pc := 89) (z := 0) (by decide) (by decide +kernel)) (
  zcons (zk_retz (pc := 90) rfl (by decide +kernel)) (
  zcons (zk_aload_n (pc := 91) (j := 1) rfl (by decide +kernel)) (
  zcons (zk_iload_n (pc := 92) (j := 2) rfl (by decide +kernel)) (
  zcons (zk_iload_n (pc := 93) (j := 3) rfl (by decide +kernel)) (
  zcons (zk_iload (pc := 94) (by decide +kernel)) (
  zcons (zk_cvvN (pc := 96) 53 rfl (ci := 5) rfl zw_379 zw_381 zsel_X5_begin zds_X5_begin (by decide) zw_382 zw_3 (by decide +kernel)) (
  zcons (zk_iconst (pc := 99) (z := 1) (by decide) (by decide +kernel)) (
  zcons (zk_retz (pc := 100) rfl (by decide +kernel)) (znil))))))))))))))))))))))))))))))))))))))))))))))))))))))))))
def tb_X3_readStamps : List (Nat × ZP) := [(0, zo_i 0 1), (1, zo_is 2 2), (2, zo_il 2 3), (3, zo_al 1 4), (4, zo_get 5 1 7), (7, zo_icge 68 10), (10, zo_al 0 11), (11, zo_cvi 3 43 0 14), (14, zo_is 3 15), (15, zo_il 3 16), (16, zo_ifne 25 19), (19, zo_al 0 20), (20, zo_i 1 21), (21, zo_cvi 3 46 1 24), (24, zo_retz), (25, zo_al 0 26), (26, zo_cvv 3 47 0 29), (29, zo_al 0 30), (30, zo_i 0 31), (31, zo_i 9 33), (33, zo_cvi 3 45 2 36), (36, zo_is 4 38), (38, zo_il 4 40), (40, zo_iflt 52 43), (43, zo_al 0 44), (44, zo_i 59 46), (46, zo_cvi 3 44 1 49), (49, zo_ifne 54 52), (52, zo_i 0 53), (53, zo_retz), (54, zo_al 1 55), (55, zo_il 2 56), (56, zo_il 3 57), (57, zo_il 4 59), (59, zo_cvv 5 55 3 62), (62, zo_inc 2 1 65), (65, zo_goto 2), (68, zo_al 0 69), (69, zo_cvi 3 43 0 72), (72, zo_ifeq 83 75), (75, zo_al 0 76), (76, zo_i 3 77), (77, zo_cvi 3 46 1 80), (80, zo_ifeq 87 83), (83, zo_i 1 84), (84, zo_goto 88), (87, zo_i 0 88), (88, zo_retz)]
def cu_X3_readStamps : List (Nat × List Bool) := [(2, [true, true, true, false, false])]
set_option maxRecDepth 100000 in
set_option maxHeartbeats 4000000 in
theorem ok_X3_readStamps : ∀ e ∈ tb_X3_readStamps, ZOK zmt cX3_readStamps RX3 3 e.1 e.2 :=
  zcons (zk_iconst (pc := 0) (z := 0) (by decide) (by decide +kernel)) (
  zcons (zk_istore_n (pc := 1) (j := 2) rfl (by decide +kernel)) (
  zcons (zk_iload_n (pc := 2) (j := 2) rfl (by decide +kernel)) (
  zcons (zk_aload_n (pc := 3) (j := 1) rfl (by decide +kernel)) (
  zcons (zk_getN (pc := 4) (ci := 5) (j := 1) rfl zinX5 (by decide) zw_66 (by decide +kernel)) (
  zcons (zk_icge (pc := 7) (off := 61) (by decide) (by decide +kernel)) (
  zcons (zk_aload_n (pc := 10) (j := 0) rfl (by decide +kernel)) (
  zcons (zk_cvi (pc := 11) 43 rfl (ci := 3) rfl zw_392 zw_394 zsel_X3_kindOfSort zds_X3_kindOfSort (by decide) zw_395 zw_2 (by decide +kernel)) (
  zcons (zk_istore_n (pc := 14) (j := 3) rfl (by decide +kernel)) (
  zcons (zk_iload_n (pc := 15) (j := 3) rfl (by decide +kernel)) (
  zcons (zk_ifne (pc := 16) (off := 9) (by decide) (by decide +kernel)) (
  zcons (zk_aload_n (pc := 19) (j := 0) rfl (by decide +kernel)) (
  zcons (zk_iconst (pc := 20) (z := 1) (by decide) (by decide +kernel)) (
  zcons (zk_cvi (pc := 21) 46 rfl (ci := 3) rfl zw_368 zw_370 zsel_X3_refuse zds_X3_refuse (by decide) zw_371 zw_2 (by decide +kernel)) (
  zcons (zk_retz (pc := 24) rfl (by decide +kernel)) (
  zcons (zk_aload_n (pc := 25) (j := 0) rfl (by decide +kernel)) (
  zcons (zk_cvv (pc := 26) 47 rfl (ci := 3) rfl zw_349 zw_351 zsel_X3_step zds_X3_step (by decide) zw_352 zw_2 (by decide +kernel)) (
  zcons (zk_aload_n (pc := 29) (j := 0) rfl (by decide +kernel)) (
  zcons (zk_iconst (pc := 30) (z := 0) (by decide) (by decide +kernel)) (
  zcons (zk_bipush (pc := 31) (z := 9) (by decide) (by decide +kernel)) (
  zcons (zk_cvi (pc := 33) 45 rfl (ci := 3) rfl zw_372 zw_374 zsel_X3_takeNumber zds_X3_takeNumber (by decide) zw_375 zw_2 (by decide +kernel)) (
  zcons (zk_istore (pc := 36) (by decide +kernel)) (
  zcons (zk_iload (pc := 38) (by decide +kernel)) (
  zcons (zk_iflt (pc := 40) (off := 12) (by decide) (by decide +kernel)) (
  zcons (zk_aload_n (pc := 43) (j := 0) rfl (by decide +kernel)) (
  zcons (zk_bipush (pc := 44) (z := 59) (by decide) (by decide +kernel)) (
  zcons (zk_cvi (pc := 46) 44 rfl (ci := 3) rfl zw_364 zw_366 zsel_X3_takes zds_X3_takes (by decide) zw_367 zw_2 (by decide +kernel)) (
  zcons (zk_ifne (pc := 49) (off := 5) (by decide) (by decide +kernel)) (
  zcons (zk_iconst (pc := 52) (z := 0) (by decide) (by decide +kernel)) (
  zcons (zk_retz (pc := 53) rfl (by decide +kernel)) (
  zcons (zk_aload_n (pc := 54) (j := 1) rfl (by decide +kernel)) (
  zcons (zk_iload_n (pc := 55) (j := 2) rfl (by decide +kernel)) (
  zcons (zk_iload_n (pc := 56) (j := 3) rfl (by decide +kernel)) (
  zcons (zk_iload (pc := 57) (by decide +kernel)) (
  zcons (zk_cvvN (pc := 59) 55 rfl (ci := 5) rfl zw_396 zw_398 zsel_X5_put zds_X5_put (by decide) zw_399 zw_3 (by decide +kernel)) (
  zcons (zk_iinc (pc := 62) (z := 1) (by decide) (by decide +kernel)) (
  zcons (zk_goto (pc := 65) (off := (-63)) (by decide) (by decide +kernel)) (
  zcons (zk_aload_n (pc := 68) (j := 0) rfl (by decide +kernel)) (
  zcons (zk_cvi (pc := 69) 43 rfl (ci := 3) rfl zw_392 zw_394 zsel_X3_kindOfSort zds_X3_kindOfSort (by decide) zw_395 zw_2 (by decide +kernel)) (
  zcons (zk_ifeq (pc := 72) (off := 11) (by decide) (by decide +kernel)) (
  zcons (zk_aload_n (pc := 75) (j := 0) rfl (by decide +kernel)) (
  zcons (zk_iconst (pc := 76) (z := 3) (by decide) (by decide +kernel)) (
  zcons (zk_cvi (pc := 77) 46 rfl (ci := 3) rfl zw_368 zw_370 zsel_X3_refuse zds_X3_refuse (by decide) zw_371 zw_2 (by decide +kernel)) (
  zcons (zk_ifeq (pc := 80) (off := 7) (by decide) (by decide +kernel)) (
  zcons (zk_iconst (pc := 83) (z := 1) (by decide) (by decide +kernel)) (
  zcons (zk_goto (pc := 84) (off := 4) (by decide) (by decide +kernel)) (
  zcons (zk_iconst (pc := 87) (z := 0) (by decide) (by decide +kernel)) (
  zcons (zk_retz (pc := 88) rfl (by decide +kernel)) (znil))))))))))))))))))))))))))))))))))))))))))))))))
def tb_X3_readCustomers : List (Nat × ZP) := [(0, zo_i 0 1), (1, zo_is 2 2), (2, zo_il 2 3), (3, zo_i 5 4), (4, zo_icge 81 7), (7, zo_al 0 8), (8, zo_get 3 4 11), (11, zo_i 110 13), (13, zo_icne 81 16), (16, zo_al 0 17), (17, zo_cvv 3 47 0 20), (20, zo_al 0 21), (21, zo_i 0 22), (22, zo_i 99 24), (24, zo_cvi 3 45 2 27), (27, zo_is 3 28), (28, zo_il 3 29), (29, zo_iflt 41 32), (32, zo_al 0 33), (33, zo_i 44 35), (35, zo_cvi 3 44 1 38), (38, zo_ifne 43 41), (41, zo_i 0 42), (42, zo_retz), (43, zo_al 0 44), (44, zo_il 3 45), (45, zo_i 99 47), (47, zo_cvi 3 45 2 50), (50, zo_is 4 52), (52, zo_il 4 54), (54, zo_iflt 66 57), (57, zo_al 0 58), (58, zo_i 59 60), (60, zo_cvi 3 44 1 63), (63, zo_ifne 68 66), (66, zo_i 0 67), (67, zo_retz), (68, zo_al 1 69), (69, zo_il 3 70), (70, zo_il 4 72), (72, zo_cvv 5 56 2 75), (75, zo_inc 2 1 78), (78, zo_goto 2), (81, zo_al 0 82), (82, zo_get 3 4 85), (85, zo_i 110 87), (87, zo_icne 96 90), (90, zo_al 0 91), (91, zo_i 3 92), (92, zo_cvi 3 46 1 95), (95, zo_retz), (96, zo_al 0 97), (97, zo_get 3 4 100), (100, zo_i (-1) 101), (101, zo_iceq 112 104), (104, zo_al 0 105), (105, zo_i 1 106), (106, zo_cvi 3 46 1 109), (109, zo_ifeq 116 112), (112, zo_i 1 113), (113, zo_goto 117), (116, zo_i 0 117), (117, zo_retz)]
def cu_X3_readCustomers : List (Nat × List Bool) := [(2, [true, true, true, false, false])]
set_option maxRecDepth 100000 in
set_option maxHeartbeats 4000000 in
theorem ok_X3_readCustomers : ∀ e ∈ tb_X3_readCustomers, ZOK zmt cX3_readCustomers RX3 3 e.1 e.2 :=
  zcons (zk_iconst (pc := 0) (z := 0) (by decide) (by decide +kernel)) (
  zcons (zk_istore_n (pc := 1) (j := 2) rfl (by decide +kernel)) (
  zcons (zk_iload_n (pc := 2) (j := 2) rfl (by decide +kernel)) (
  zcons (zk_iconst (pc := 3) (z := 5) (by decide) (by decide +kernel)) (
  zcons (zk_icge (pc := 4) (off := 77) (by decide) (by decide +kernel)) (
  zcons (zk_aload_n (pc := 7) (j := 0) rfl (by decide +kernel)) (
  zcons (zk_get (pc := 8) (ci := 3) (j := 4) rfl zinX3 (by decide) zw_36 (by decide +kernel)) (
  zcons (zk_bipush (pc := 11) (z := 110) (by decide) (by decide +kernel)) (
  zcons (zk_icne (pc := 13) (off := 68) (by decide) (by decide +kernel)) (
  zcons (zk_aload_n (pc := 16) (j := 0) rfl (by decide +kernel)) (
  zcons (zk_cvv (pc := 17) 47 rfl (ci := 3) rfl zw_349 zw_351 zsel_X3_step zds_X3_step (by decide) zw_352 zw_2 (by decide +kernel)) (
  zcons (zk_aload_n (pc := 20) (j := 0) rfl (by decide +kernel)) (
  zcons (zk_iconst (pc := 21) (z := 0) (by decide) (by decide +kernel)) (
  zcons (zk_bipush (pc := 22) (z := 99) (by decide) (by decide +kernel)) (
  zcons (zk_cvi (pc := 24) 45 rfl (ci := 3) rfl zw_372 zw_374 zsel_X3_takeNumber zds_X3_takeNumber (by decide) zw_375 zw_2 (by decide +kernel)) (
  zcons (zk_istore_n (pc := 27) (j := 3) rfl (by decide +kernel)) (
  zcons (zk_iload_n (pc := 28) (j := 3) rfl (by decide +kernel)) (
  zcons (zk_iflt (pc := 29) (off := 12) (by decide) (by decide +kernel)) (
  zcons (zk_aload_n (pc := 32) (j := 0) rfl (by decide +kernel)) (
  zcons (zk_bipush (pc := 33) (z := 44) (by decide) (by decide +kernel)) (
  zcons (zk_cvi (pc := 35) 44 rfl (ci := 3) rfl zw_364 zw_366 zsel_X3_takes zds_X3_takes (by decide) zw_367 zw_2 (by decide +kernel)) (
  zcons (zk_ifne (pc := 38) (off := 5) (by decide) (by decide +kernel)) (
  zcons (zk_iconst (pc := 41) (z := 0) (by decide) (by decide +kernel)) (
  zcons (zk_retz (pc := 42) rfl (by decide +kernel)) (
  zcons (zk_aload_n (pc := 43) (j := 0) rfl (by decide +kernel)) (
  zcons (zk_iload_n (pc := 44) (j := 3) rfl (by decide +kernel)) (
  zcons (zk_bipush (pc := 45) (z := 99) (by decide) (by decide +kernel)) (
  zcons (zk_cvi (pc := 47) 45 rfl (ci := 3) rfl zw_372 zw_374 zsel_X3_takeNumber zds_X3_takeNumber (by decide) zw_375 zw_2 (by decide +kernel)) (
  zcons (zk_istore (pc := 50) (by decide +kernel)) (
  zcons (zk_iload (pc := 52) (by decide +kernel)) (
  zcons (zk_iflt (pc := 54) (off := 12) (by decide) (by decide +kernel)) (
  zcons (zk_aload_n (pc := 57) (j := 0) rfl (by decide +kernel)) (
  zcons (zk_bipush (pc := 58) (z := 59) (by decide) (by decide +kernel)) (
  zcons (zk_cvi (pc := 60) 44 rfl (ci := 3) rfl zw_364 zw_366 zsel_X3_takes zds_X3_takes (by decide) zw_367 zw_2 (by decide +kernel)) (
  zcons (zk_ifne (pc := 63) (off := 5) (by decide) (by decide +kernel)) (
  zcons (zk_iconst (pc := 66) (z := 0) (by decide) (by decide +kernel)) (
  zcons (zk_retz (pc := 67) rfl (by decide +kernel)) (
  zcons (zk_aload_n (pc := 68) (j := 1) rfl (by decide +kernel)) (
  zcons (zk_iload_n (pc := 69) (j := 3) rfl (by decide +kernel)) (
  zcons (zk_iload (pc := 70) (by decide +kernel)) (
  zcons (zk_cvvN (pc := 72) 56 rfl (ci := 5) rfl zw_404 zw_406 zsel_X5_add zds_X5_add (by decide) zw_407 zw_3 (by decide +kernel)) (
  zcons (zk_iinc (pc := 75) (z := 1) (by decide) (by decide +kernel)) (
  zcons (zk_goto (pc := 78) (off := (-76)) (by decide) (by decide +kernel)) (
  zcons (zk_aload_n (pc := 81) (j := 0) rfl (by decide +kernel)) (
  zcons (zk_get (pc := 82) (ci := 3) (j := 4) rfl zinX3 (by decide) zw_36 (by decide +kernel)) (
  zcons (zk_bipush (pc := 85) (z := 110) (by decide) (by decide +kernel)) (
  zcons (zk_icne (pc := 87) (off := 9) (by decide) (by decide +kernel)) (
  zcons (zk_aload_n (pc := 90) (j := 0) rfl (by decide +kernel)) (
  zcons (zk_iconst (pc := 91) (z := 3) (by decide) (by decide +kernel)) (
  zcons (zk_cvi (pc := 92) 46 rfl (ci := 3) rfl zw_368 zw_370 zsel_X3_refuse zds_X3_refuse (by decide) zw_371 zw_2 (by decide +kernel)) (
  zcons (zk_retz (pc := 95) rfl (by decide +kernel)) (
  zcons (zk_aload_n (pc := 96) (j := 0) rfl (by decide +kernel)) (
  zcons (zk_get (pc := 97) (ci := 3) (j := 4) rfl zinX3 (by decide) zw_36 (by decide +kernel)) (
  zcons (zk_iconst (pc := 100) (z := (-1)) (by decide) (by decide +kernel)) (
  zcons (zk_iceq (pc := 101) (off := 11) (by decide) (by decide +kernel)) (
  zcons (zk_aload_n (pc := 104) (j := 0) rfl (by decide +kernel)) (
  zcons (zk_iconst (pc := 105) (z := 1) (by decide) (by decide +kernel)) (
  zcons (zk_cvi (pc := 106) 46 rfl (ci := 3) rfl zw_368 zw_370 zsel_X3_refuse zds_X3_refuse (by decide) zw_371 zw_2 (by decide +kernel)) (
  zcons (zk_ifeq (pc := 109) (off := 7) (by decide) (by decide +kernel)) (
  zcons (zk_iconst (pc := 112) (z := 1) (by decide) (by decide +kernel)) (
  zcons (zk_goto (pc := 113) (off := 4) (by decide) (by decide +kernel)) (
  zcons (zk_iconst (pc := 116) (z := 0) (by decide) (by decide +kernel)) (
  zcons (zk_retz (pc := 117) rfl (by decide +kernel)) (znil)))))))))))))))))))))))))))))))))))))))))))))))))))))))))))))))
def tb_X3_kindOfSort : List (Nat × ZP) := [(0, zo_al 0 1), (1, zo_get 3 4 4), (4, zo_sw [(97, 62), (100, 60), (101, 64), (111, 56), (117, 58)] 66), (56, zo_i 1 57), (57, zo_reti), (58, zo_i 2 59), (59, zo_reti), (60, zo_i 3 61), (61, zo_reti), (62, zo_i 4 63), (63, zo_reti), (64, zo_i 5 65), (65, zo_reti), (66, zo_i 0 67), (67, zo_reti)]
def cu_X3_kindOfSort : List (Nat × List Bool) := []
set_option maxRecDepth 100000 in
set_option maxHeartbeats 4000000 in
theorem ok_X3_kindOfSort : ∀ e ∈ tb_X3_kindOfSort, ZOK zmt cX3_kindOfSort RX3 1 e.1 e.2 :=
  zcons (zk_aload_n (pc := 0) (j := 0) rfl (by decide +kernel)) (
  zcons (zk_get (pc := 1) (ci := 3) (j := 4) rfl zinX3 (by decide) zw_36 (by decide +kernel)) (
  zcons (zk_lookup (pc := 4) (dflt := 62) (os := #[(97, 58), (100, 56), (101, 60), (111, 52), (117, 54)]) (len := 52) (by decide) (by decide +kernel) (by decide +kernel) (by decide +kernel)) (
  zcons (zk_iconst (pc := 56) (z := 1) (by decide) (by decide +kernel)) (
  zcons (zk_reti (pc := 57) rfl (by decide +kernel)) (
  zcons (zk_iconst (pc := 58) (z := 2) (by decide) (by decide +kernel)) (
  zcons (zk_reti (pc := 59) rfl (by decide +kernel)) (
  zcons (zk_iconst (pc := 60) (z := 3) (by decide) (by decide +kernel)) (
  zcons (zk_reti (pc := 61) rfl (by decide +kernel)) (
  zcons (zk_iconst (pc := 62) (z := 4) (by decide) (by decide +kernel)) (
  zcons (zk_reti (pc := 63) rfl (by decide +kernel)) (
  zcons (zk_iconst (pc := 64) (z := 5) (by decide) (by decide +kernel)) (
  zcons (zk_reti (pc := 65) rfl (by decide +kernel)) (
  zcons (zk_iconst (pc := 66) (z := 0) (by decide) (by decide +kernel)) (
  zcons (zk_reti (pc := 67) rfl (by decide +kernel)) (znil)))))))))))))))
def tb_X3_takes : List (Nat × ZP) := [(0, zo_al 0 1), (1, zo_get 3 4 4), (4, zo_il 1 5), (5, zo_iceq 14 8), (8, zo_al 0 9), (9, zo_i 1 10), (10, zo_cvi 3 46 1 13), (13, zo_retz), (14, zo_al 0 15), (15, zo_cvv 3 47 0 18), (18, zo_i 1 19), (19, zo_retz)]
def cu_X3_takes : List (Nat × List Bool) := []
set_option maxRecDepth 100000 in
set_option maxHeartbeats 4000000 in
theorem ok_X3_takes : ∀ e ∈ tb_X3_takes, ZOK zmt cX3_takes RX3 3 e.1 e.2 :=
  zcons (zk_aload_n (pc := 0) (j := 0) rfl (by decide +kernel)) (
  zcons (zk_get (pc := 1) (ci := 3) (j := 4) rfl zinX3 (by decide) zw_36 (by decide +kernel)) (
  zcons (zk_iload_n (pc := 4) (j := 1) rfl (by decide +kernel)) (
  zcons (zk_iceq (pc := 5) (off := 9) (by decide) (by decide +kernel)) (
  zcons (zk_aload_n (pc := 8) (j := 0) rfl (by decide +kernel)) (
  zcons (zk_iconst (pc := 9) (z := 1) (by decide) (by decide +kernel)) (
  zcons (zk_cvi (pc := 10) 46 rfl (ci := 3) rfl zw_368 zw_370 zsel_X3_refuse zds_X3_refuse (by decide) zw_371 zw_2 (by decide +kernel)) (
  zcons (zk_retz (pc := 13) rfl (by decide +kernel)) (
  zcons (zk_aload_n (pc := 14) (j := 0) rfl (by decide +kernel)) (
  zcons (zk_cvv (pc := 15) 47 rfl (ci := 3) rfl zw_349 zw_351 zsel_X3_step zds_X3_step (by decide) zw_352 zw_2 (by decide +kernel)) (
  zcons (zk_iconst (pc := 18) (z := 1) (by decide) (by decide +kernel)) (
  zcons (zk_retz (pc := 19) rfl (by decide +kernel)) (znil))))))))))))
def tb_X3_takeNumber : List (Nat × ZP) := [(0, zo_al 0 1), (1, zo_get 3 4 4), (4, zo_ifeq 15 7), (7, zo_al 0 8), (8, zo_i 1 9), (9, zo_cvi 3 46 1 12), (12, zo_pop 13), (13, zo_i (-1) 14), (14, zo_reti), (15, zo_al 0 16), (16, zo_get 3 5 19), (19, zo_is 3 20), (20, zo_il 3 21), (21, zo_il 1 22), (22, zo_iclt 30 25), (25, zo_il 3 26), (26, zo_il 2 27), (27, zo_icle 38 30), (30, zo_al 0 31), (31, zo_i 2 32), (32, zo_cvi 3 46 1 35), (35, zo_pop 36), (36, zo_i (-1) 37), (37, zo_reti), (38, zo_al 0 39), (39, zo_cvv 3 47 0 42), (42, zo_il 3 43), (43, zo_reti)]
def cu_X3_takeNumber : List (Nat × List Bool) := []
set_option maxRecDepth 100000 in
set_option maxHeartbeats 4000000 in
theorem ok_X3_takeNumber : ∀ e ∈ tb_X3_takeNumber, ZOK zmt cX3_takeNumber RX3 1 e.1 e.2 :=
  zcons (zk_aload_n (pc := 0) (j := 0) rfl (by decide +kernel)) (
  zcons (zk_get (pc := 1) (ci := 3) (j := 4) rfl zinX3 (by decide) zw_36 (by decide +kernel)) (
  zcons (zk_ifeq (pc := 4) (off := 11) (by decide) (by decide +kernel)) (
  zcons (zk_aload_n (pc := 7) (j := 0) rfl (by decide +kernel)) (
  zcons (zk_iconst (pc := 8) (z := 1) (by decide) (by decide +kernel)) (
  zcons (zk_cvi (pc := 9) 46 rfl (ci := 3) rfl zw_368 zw_370 zsel_X3_refuse zds_X3_refuse (by decide) zw_371 zw_2 (by decide +kernel)) (
  zcons (zk_pop (pc := 12) (by decide +kernel)) (
  zcons (zk_iconst (pc := 13) (z := (-1)) (by decide) (by decide +kernel)) (
  zcons (zk_reti (pc := 14) rfl (by decide +kernel)) (
  zcons (zk_aload_n (pc := 15) (j := 0) rfl (by decide +kernel)) (
  zcons (zk_get (pc := 16) (ci := 3) (j := 5) rfl zinX3 (by decide) zw_37 (by decide +kernel)) (
  zcons (zk_istore_n (pc := 19) (j := 3) rfl (by decide +kernel)) (
  zcons (zk_iload_n (pc := 20) (j := 3) rfl (by decide +kernel)) (
  zcons (zk_iload_n (pc := 21) (j := 1) rfl (by decide +kernel)) (
  zcons (zk_iclt (pc := 22) (off := 8) (by decide) (by decide +kernel)) (
  zcons (zk_iload_n (pc := 25) (j := 3) rfl (by decide +kernel)) (
  zcons (zk_iload_n (pc := 26) (j := 2) rfl (by decide +kernel)) (
  zcons (zk_icle (pc := 27) (off := 11) (by decide) (by decide +kernel)) (
  zcons (zk_aload_n (pc := 30) (j := 0) rfl (by decide +kernel)) (
  zcons (zk_iconst (pc := 31) (z := 2) (by decide) (by decide +kernel)) (
  zcons (zk_cvi (pc := 32) 46 rfl (ci := 3) rfl zw_368 zw_370 zsel_X3_refuse zds_X3_refuse (by decide) zw_371 zw_2 (by decide +kernel)) (
  zcons (zk_pop (pc := 35) (by decide +kernel)) (
  zcons (zk_iconst (pc := 36) (z := (-1)) (by decide) (by decide +kernel)) (
  zcons (zk_reti (pc := 37) rfl (by decide +kernel)) (
  zcons (zk_aload_n (pc := 38) (j := 0) rfl (by decide +kernel)) (
  zcons (zk_cvv (pc := 39) 47 rfl (ci := 3) rfl zw_349 zw_351 zsel_X3_step zds_X3_step (by decide) zw_352 zw_2 (by decide +kernel)) (
  zcons (zk_iload_n (pc := 42) (j := 3) rfl (by decide +kernel)) (
  zcons (zk_reti (pc := 43) rfl (by decide +kernel)) (znil))))))))))))))))))))))))))))
def tb_X3_refuse : List (Nat × ZP) := [(0, zo_al 0 1), (1, zo_il 1 2), (2, zo_put 3 6 5), (5, zo_i 0 6), (6, zo_retz)]
def cu_X3_refuse : List (Nat × List Bool) := []
set_option maxRecDepth 100000 in
set_option maxHeartbeats 4000000 in
theorem ok_X3_refuse : ∀ e ∈ tb_X3_refuse, ZOK zmt cX3_refuse RX3 3 e.1 e.2 :=
  zcons (zk_aload_n (pc := 0) (j := 0) rfl (by decide +kernel)) (
  zcons (zk_iload_n (pc := 1) (j := 1) rfl (by decide +kernel)) (
  zcons (zk_put (pc := 2) (ci := 3) (j := 6) rfl zinX3 (by decide) zw_38 tyX3 tyX3_ok nmX3 rfl (by decide +kernel) (by decide +kernel)) (
  zcons (zk_iconst (pc := 5) (z := 0) (by decide) (by decide +kernel)) (
  zcons (zk_retz (pc := 6) rfl (by decide +kernel)) (znil)))))
def tb_X3_step : List (Nat × ZP) := [(0, zo_al 0 1), (1, zo_al 0 2), (2, zo_get 3 2 5), (5, zo_put 3 3 8), (8, zo_al 0 9), (9, zo_get 3 2 12), (12, zo_al 0 13), (13, zo_get 3 1 16), (16, zo_iclt 25 19), (19, zo_al 0 20), (20, zo_i (-1) 21), (21, zo_put 3 4 24), (24, zo_retv), (25, zo_al 0 26), (26, zo_getr 3 0 29), (29, zo_al 0 30), (30, zo_get 3 2 33), (33, zo_iald 34), (34, zo_is 1 35), (35, zo_il 1 36), (36, zo_csi 49 1 39), (39, zo_ifeq 47 42), (42, zo_al 0 43), (43, zo_cvv 3 48 0 46), (46, zo_retv), (47, zo_al 0 48), (48, zo_dup 49), (49, zo_get 3 2 52), (52, zo_i 1 53), (53, zo_bin (· + ·) 54), (54, zo_put 3 2 57), (57, zo_al 0 58), (58, zo_il 1 59), (59, zo_i 97 61), (61, zo_iclt 70 64), (64, zo_il 1 65), (65, zo_i 122 67), (67, zo_icle 82 70), (70, zo_il 1 71), (71, zo_i 44 73), (73, zo_iceq 82 76), (76, zo_il 1 77), (77, zo_i 59 79), (79, zo_icne 86 82), (82, zo_il 1 83), (83, zo_goto 88), (86, zo_i (-2) 88), (88, zo_put 3 4 91), (91, zo_retv)]
def cu_X3_step : List (Nat × List Bool) := []
set_option maxRecDepth 100000 in
set_option maxHeartbeats 4000000 in
theorem ok_X3_step : ∀ e ∈ tb_X3_step, ZOK zmt cX3_step RX3 0 e.1 e.2 :=
  zcons (zk_aload_n (pc := 0) (j := 0) rfl (by decide +kernel)) (
  zcons (zk_aload_n (pc := 1) (j := 0) rfl (by decide +kernel)) (
  zcons (zk_get (pc := 2) (ci := 3) (j := 2) rfl zinX3 (by decide) zw_33 (by decide +kernel)) (
  zcons (zk_put (pc := 5) (ci := 3) (j := 3) rfl zinX3 (by decide) zw_34 tyX3 tyX3_ok nmX3 rfl (by decide +kernel) (by decide +kernel)) (
  zcons (zk_aload_n (pc := 8) (j := 0) rfl (by decide +kernel)) (
  zcons (zk_get (pc := 9) (ci := 3) (j := 2) rfl zinX3 (by decide) zw_33 (by decide +kernel)) (
  zcons (zk_aload_n (pc := 12) (j := 0) rfl (by decide +kernel)) (
  zcons (zk_get (pc := 13) (ci := 3) (j := 1) rfl zinX3 (by decide) zw_31 (by decide +kernel)) (
  zcons (zk_iclt (pc := 16) (off := 9) (by decide) (by decide +kernel)) (
  zcons (zk_aload_n (pc := 19) (j := 0) rfl (by decide +kernel)) (
  zcons (zk_iconst (pc := 20) (z := (-1)) (by decide) (by decide +kernel)) (
  zcons (zk_put (pc := 21) (ci := 3) (j := 4) rfl zinX3 (by decide) zw_36 tyX3 tyX3_ok nmX3 rfl (by decide +kernel) (by decide +kernel)) (
  zcons (zk_retv (pc := 24) rfl (by decide +kernel)) (
  zcons (zk_aload_n (pc := 25) (j := 0) rfl (by decide +kernel)) (
  zcons (zk_getr (pc := 26) (ci := 3) (j := 0) rfl zinX3 (by decide) zw_30 (by decide +kernel)) (
  zcons (zk_aload_n (pc := 29) (j := 0) rfl (by decide +kernel)) (
  zcons (zk_get (pc := 30) (ci := 3) (j := 2) rfl zinX3 (by decide) zw_33 (by decide +kernel)) (
  zcons (zk_iaload (pc := 33) (by decide +kernel)) (
  zcons (zk_istore_n (pc := 34) (j := 1) rfl (by decide +kernel)) (
  zcons (zk_iload_n (pc := 35) (j := 1) rfl (by decide +kernel)) (
  zcons (zk_csi (pc := 36) 49 rfl zw_353 zw_354 zds_X3_isFigureSign (by decide) zw_355 zw_2 (by decide +kernel)) (
  zcons (zk_ifeq (pc := 39) (off := 8) (by decide) (by decide +kernel)) (
  zcons (zk_aload_n (pc := 42) (j := 0) rfl (by decide +kernel)) (
  zcons (zk_cvv (pc := 43) 48 rfl (ci := 3) rfl zw_356 zw_358 zsel_X3_stepOverNumber zds_X3_stepOverNumber (by decide) zw_359 zw_2 (by decide +kernel)) (
  zcons (zk_retv (pc := 46) rfl (by decide +kernel)) (
  zcons (zk_aload_n (pc := 47) (j := 0) rfl (by decide +kernel)) (
  zcons (zk_dup (pc := 48) (by decide +kernel)) (
  zcons (zk_get (pc := 49) (ci := 3) (j := 2) rfl zinX3 (by decide) zw_33 (by decide +kernel)) (
  zcons (zk_iconst (pc := 52) (z := 1) (by decide) (by decide +kernel)) (
  zcons (zk_iadd (pc := 53) (by decide +kernel)) (
  zcons (zk_put (pc := 54) (ci := 3) (j := 2) rfl zinX3 (by decide) zw_33 tyX3 tyX3_ok nmX3 rfl (by decide +kernel) (by decide +kernel)) (
  zcons (zk_aload_n (pc := 57) (j := 0) rfl (by decide +kernel)) (
  zcons (zk_iload_n (pc := 58) (j := 1) rfl (by decide +kernel)) (
  zcons (zk_bipush (pc := 59) (z := 97) (by decide) (by decide +kernel)) (
  zcons (zk_iclt (pc := 61) (off := 9) (by decide) (by decide +kernel)) (
  zcons (zk_iload_n (pc := 64) (j := 1) rfl (by decide +kernel)) (
  zcons (zk_bipush (pc := 65) (z := 122) (by decide) (by decide +kernel)) (
  zcons (zk_icle (pc := 67) (off := 15) (by decide) (by decide +kernel)) (
  zcons (zk_iload_n (pc := 70) (j := 1) rfl (by decide +kernel)) (
  zcons (zk_bipush (pc := 71) (z := 44) (by decide) (by decide +kernel)) (
  zcons (zk_iceq (pc := 73) (off := 9) (by decide) (by decide +kernel)) (
  zcons (zk_iload_n (pc := 76) (j := 1) rfl (by decide +kernel)) (
  zcons (zk_bipush (pc := 77) (z := 59) (by decide) (by decide +kernel)) (
  zcons (zk_icne (pc := 79) (off := 7) (by decide) (by decide +kernel)) (
  zcons (zk_iload_n (pc := 82) (j := 1) rfl (by decide +kernel)) (
  zcons (zk_goto (pc := 83) (off := 5) (by decide) (by decide +kernel)) (
  zcons (zk_bipush (pc := 86) (z := (-2)) (by decide) (by decide +kernel)) (
  zcons (zk_put (pc := 88) (ci := 3) (j := 4) rfl zinX3 (by decide) zw_36 tyX3 tyX3_ok nmX3 rfl (by decide +kernel) (by decide +kernel)) (
  zcons (zk_retv (pc := 91) rfl (by decide +kernel)) (znil)))))))))))))))))))))))))))))))))))))))))))))))))
def tb_X3_stepOverNumber : List (Nat × ZP) := [(0, zo_al 0 1), (1, zo_i 0 2), (2, zo_put 3 5 5), (5, zo_al 0 6), (6, zo_get 3 2 9), (9, zo_al 0 10), (10, zo_get 3 1 13), (13, zo_icge 68 16), (16, zo_al 0 17), (17, zo_getr 3 0 20), (20, zo_al 0 21), (21, zo_get 3 2 24), (24, zo_iald 25), (25, zo_csi 49 1 28), (28, zo_ifeq 68 31), (31, zo_al 0 32), (32, zo_i 10 34), (34, zo_al 0 35), (35, zo_get 3 5 38), (38, zo_bin (· * ·) 39), (39, zo_al 0 40), (40, zo_getr 3 0 43), (43, zo_al 0 44), (44, zo_get 3 2 47), (47, zo_iald 48), (48, zo_bin (· + ·) 49), (49, zo_i 48 51), (51, zo_bin (· - ·) 52), (52, zo_put 3 5 55), (55, zo_al 0 56), (56, zo_dup 57), (57, zo_get 3 2 60), (60, zo_i 1 61), (61, zo_bin (· + ·) 62), (62, zo_put 3 2 65), (65, zo_goto 5), (68, zo_al 0 69), (69, zo_al 0 70), (70, zo_get 3 2 73), (73, zo_al 0 74), (74, zo_get 3 3 77), (77, zo_bin (· - ·) 78), (78, zo_i 2 79), (79, zo_icgt 86 82), (82, zo_i 0 83), (83, zo_goto 88), (86, zo_i (-2) 88), (88, zo_put 3 4 91), (91, zo_retv)]
def cu_X3_stepOverNumber : List (Nat × List Bool) := [(5, [true])]
set_option maxRecDepth 100000 in
set_option maxHeartbeats 4000000 in
theorem ok_X3_stepOverNumber : ∀ e ∈ tb_X3_stepOverNumber, ZOK zmt cX3_stepOverNumber RX3 0 e.1 e.2 :=
  zcons (zk_aload_n (pc := 0) (j := 0) rfl (by decide +kernel)) (
  zcons (zk_iconst (pc := 1) (z := 0) (by decide) (by decide +kernel)) (
  zcons (zk_put (pc := 2) (ci := 3) (j := 5) rfl zinX3 (by decide) zw_37 tyX3 tyX3_ok nmX3 rfl (by decide +kernel) (by decide +kernel)) (
  zcons (zk_aload_n (pc := 5) (j := 0) rfl (by decide +kernel)) (
  zcons (zk_get (pc := 6) (ci := 3) (j := 2) rfl zinX3 (by decide) zw_33 (by decide +kernel)) (
  zcons (zk_aload_n (pc := 9) (j := 0) rfl (by decide +kernel)) (
  zcons (zk_get (pc := 10) (ci := 3) (j := 1) rfl zinX3 (by decide) zw_31 (by decide +kernel)) (
  zcons (zk_icge (pc := 13) (off := 55) (by decide) (by decide +kernel)) (
  zcons (zk_aload_n (pc := 16) (j := 0) rfl (by decide +kernel)) (
  zcons (zk_getr (pc := 17) (ci := 3) (j := 0) rfl zinX3 (by decide) zw_30 (by decide +kernel)) (
  zcons (zk_aload_n (pc := 20) (j := 0) rfl (by decide +kernel)) (
  zcons (zk_get (pc := 21) (ci := 3) (j := 2) rfl zinX3 (by decide) zw_33 (by decide +kernel)) (
  zcons (zk_iaload (pc := 24) (by decide +kernel)) (
  zcons (zk_csi (pc := 25) 49 rfl zw_353 zw_354 zds_X3_isFigureSign (by decide) zw_355 zw_2 (by decide +kernel)) (
  zcons (zk_ifeq (pc := 28) (off := 40) (by decide) (by decide +kernel)) (
  zcons (zk_aload_n (pc := 31) (j := 0) rfl (by decide +kernel)) (
  zcons (zk_bipush (pc := 32) (z := 10) (by decide) (by decide +kernel)) (
  zcons (zk_aload_n (pc := 34) (j := 0) rfl (by decide +kernel)) (
  zcons (zk_get (pc := 35) (ci := 3) (j := 5) rfl zinX3 (by decide) zw_37 (by decide +kernel)) (
  zcons (zk_imul (pc := 38) (by decide +kernel)) (
  zcons (zk_aload_n (pc := 39) (j := 0) rfl (by decide +kernel)) (
  zcons (zk_getr (pc := 40) (ci := 3) (j := 0) rfl zinX3 (by decide) zw_30 (by decide +kernel)) (
  zcons (zk_aload_n (pc := 43) (j := 0) rfl (by decide +kernel)) (
  zcons (zk_get (pc := 44) (ci := 3) (j := 2) rfl zinX3 (by decide) zw_33 (by decide +kernel)) (
  zcons (zk_iaload (pc := 47) (by decide +kernel)) (
  zcons (zk_iadd (pc := 48) (by decide +kernel)) (
  zcons (zk_bipush (pc := 49) (z := 48) (by decide) (by decide +kernel)) (
  zcons (zk_isub (pc := 51) (by decide +kernel)) (
  zcons (zk_put (pc := 52) (ci := 3) (j := 5) rfl zinX3 (by decide) zw_37 tyX3 tyX3_ok nmX3 rfl (by decide +kernel) (by decide +kernel)) (
  zcons (zk_aload_n (pc := 55) (j := 0) rfl (by decide +kernel)) (
  zcons (zk_dup (pc := 56) (by decide +kernel)) (
  zcons (zk_get (pc := 57) (ci := 3) (j := 2) rfl zinX3 (by decide) zw_33 (by decide +kernel)) (
  zcons (zk_iconst (pc := 60) (z := 1) (by decide) (by decide +kernel)) (
  zcons (zk_iadd (pc := 61) (by decide +kernel)) (
  zcons (zk_put (pc := 62) (ci := 3) (j := 2) rfl zinX3 (by decide) zw_33 tyX3 tyX3_ok nmX3 rfl (by decide +kernel) (by decide +kernel)) (
  zcons (zk_goto (pc := 65) (off := (-60)) (by decide) (by decide +kernel)) (
  zcons (zk_aload_n (pc := 68) (j := 0) rfl (by decide +kernel)) (
  zcons (zk_aload_n (pc := 69) (j := 0) rfl (by decide +kernel)) (
  zcons (zk_get (pc := 70) (ci := 3) (j := 2) rfl zinX3 (by decide) zw_33 (by decide +kernel)) (
  zcons (zk_aload_n (pc := 73) (j := 0) rfl (by decide +kernel)) (
  zcons (zk_get (pc := 74) (ci := 3) (j := 3) rfl zinX3 (by decide) zw_34 (by decide +kernel)) (
  zcons (zk_isub (pc := 77) (by decide +kernel)) (
  zcons (zk_iconst (pc := 78) (z := 2) (by decide) (by decide +kernel)) (
  zcons (zk_icgt (pc := 79) (off := 7) (by decide) (by decide +kernel)) (
  zcons (zk_iconst (pc := 82) (z := 0) (by decide) (by decide +kernel)) (
  zcons (zk_goto (pc := 83) (off := 5) (by decide) (by decide +kernel)) (
  zcons (zk_bipush (pc := 86) (z := (-2)) (by decide) (by decide +kernel)) (
  zcons (zk_put (pc := 88) (ci := 3) (j := 4) rfl zinX3 (by decide) zw_36 tyX3 tyX3_ok nmX3 rfl (by decide +kernel) (by decide +kernel)) (
  zcons (zk_retv (pc := 91) rfl (by decide +kernel)) (znil)))))))))))))))))))))))))))))))))))))))))))))))))
def tb_X3_isFigureSign : List (Nat × ZP) := [(0, zo_il 0 1), (1, zo_i 48 3), (3, zo_iclt 16 6), (6, zo_il 0 7), (7, zo_i 57 9), (9, zo_icgt 16 12), (12, zo_i 1 13), (13, zo_goto 17), (16, zo_i 0 17), (17, zo_retz)]
def cu_X3_isFigureSign : List (Nat × List Bool) := []
set_option maxRecDepth 100000 in
set_option maxHeartbeats 4000000 in
theorem ok_X3_isFigureSign : ∀ e ∈ tb_X3_isFigureSign, ZOK zmt cX3_isFigureSign RX3 3 e.1 e.2 :=
  zcons (zk_iload_n (pc := 0) (j := 0) rfl (by decide +kernel)) (
  zcons (zk_bipush (pc := 1) (z := 48) (by decide) (by decide +kernel)) (
  zcons (zk_iclt (pc := 3) (off := 13) (by decide) (by decide +kernel)) (
  zcons (zk_iload_n (pc := 6) (j := 0) rfl (by decide +kernel)) (
  zcons (zk_bipush (pc := 7) (z := 57) (by decide) (by decide +kernel)) (
  zcons (zk_icgt (pc := 9) (off := 7) (by decide) (by decide +kernel)) (
  zcons (zk_iconst (pc := 12) (z := 1) (by decide) (by decide +kernel)) (
  zcons (zk_goto (pc := 13) (off := 4) (by decide) (by decide +kernel)) (
  zcons (zk_iconst (pc := 16) (z := 0) (by decide) (by decide +kernel)) (
  zcons (zk_retz (pc := 17) rfl (by decide +kernel)) (znil))))))))))
def tb_X4_begin : List (Nat × ZP) := [(0, zo_al 0 1), (1, zo_i 1 2), (2, zo_putz 4 1 5), (5, zo_al 0 6), (6, zo_il 1 7), (7, zo_put 4 2 10), (10, zo_al 0 11), (11, zo_il 2 12), (12, zo_put 4 3 15), (15, zo_al 0 16), (16, zo_getr 4 0 19), (19, zo_i 0 20), (20, zo_csv 237 2 23), (23, zo_retv)]
def cu_X4_begin : List (Nat × List Bool) := []
set_option maxRecDepth 100000 in
set_option maxHeartbeats 4000000 in
theorem ok_X4_begin : ∀ e ∈ tb_X4_begin, ZOK zmt cX4_begin RX4 0 e.1 e.2 :=
  zcons (zk_aload_n (pc := 0) (j := 0) rfl (by decide +kernel)) (
  zcons (zk_iconst (pc := 1) (z := 1) (by decide) (by decide +kernel)) (
  zcons (zk_putz (pc := 2) (ci := 4) (j := 1) rfl zinX4 (by decide) zw_239 tyX4 tyX4_ok nmX4 rfl (by decide +kernel) (by decide +kernel)) (
  zcons (zk_aload_n (pc := 5) (j := 0) rfl (by decide +kernel)) (
  zcons (zk_iload_n (pc := 6) (j := 1) rfl (by decide +kernel)) (
  zcons (zk_put (pc := 7) (ci := 4) (j := 2) rfl zinX4 (by decide) zw_241 tyX4 tyX4_ok nmX4 rfl (by decide +kernel) (by decide +kernel)) (
  zcons (zk_aload_n (pc := 10) (j := 0) rfl (by decide +kernel)) (
  zcons (zk_iload_n (pc := 11) (j := 2) rfl (by decide +kernel)) (
  zcons (zk_put (pc := 12) (ci := 4) (j := 3) rfl zinX4 (by decide) zw_243 tyX4 tyX4_ok nmX4 rfl (by decide +kernel) (by decide +kernel)) (
  zcons (zk_aload_n (pc := 15) (j := 0) rfl (by decide +kernel)) (
  zcons (zk_getr (pc := 16) (ci := 4) (j := 0) rfl zinX4 (by decide) zw_236 (by decide +kernel)) (
  zcons (zk_iconst (pc := 19) (z := 0) (by decide) (by decide +kernel)) (
  zcons (zk_csv (pc := 20) 237 rfl zw_302 zw_303 zds_J7_fill_53178 (by decide) zw_304 zw_10 (by decide +kernel)) (
  zcons (zk_retv (pc := 23) rfl (by decide +kernel)) (znil))))))))))))))
def tb_X4_reaches : List (Nat × ZP) := [(0, zo_il 1 1), (1, zo_iflt 30 4), (4, zo_il 2 5), (5, zo_iflt 30 8), (8, zo_il 1 9), (9, zo_al 0 10), (10, zo_get 4 3 13), (13, zo_icgt 30 16), (16, zo_il 2 17), (17, zo_al 0 18), (18, zo_get 4 3 21), (21, zo_il 1 22), (22, zo_bin (· - ·) 23), (23, zo_icgt 30 26), (26, zo_i 1 27), (27, zo_goto 31), (30, zo_i 0 31), (31, zo_retz)]
def cu_X4_reaches : List (Nat × List Bool) := []
set_option maxRecDepth 100000 in
set_option maxHeartbeats 4000000 in
theorem ok_X4_reaches : ∀ e ∈ tb_X4_reaches, ZOK zmt cX4_reaches RX4 3 e.1 e.2 :=
  zcons (zk_iload_n (pc := 0) (j := 1) rfl (by decide +kernel)) (
  zcons (zk_iflt (pc := 1) (off := 29) (by decide) (by decide +kernel)) (
  zcons (zk_iload_n (pc := 4) (j := 2) rfl (by decide +kernel)) (
  zcons (zk_iflt (pc := 5) (off := 25) (by decide) (by decide +kernel)) (
  zcons (zk_iload_n (pc := 8) (j := 1) rfl (by decide +kernel)) (
  zcons (zk_aload_n (pc := 9) (j := 0) rfl (by decide +kernel)) (
  zcons (zk_get (pc := 10) (ci := 4) (j := 3) rfl zinX4 (by decide) zw_243 (by decide +kernel)) (
  zcons (zk_icgt (pc := 13) (off := 17) (by decide) (by decide +kernel)) (
  zcons (zk_iload_n (pc := 16) (j := 2) rfl (by decide +kernel)) (
  zcons (zk_aload_n (pc := 17) (j := 0) rfl (by decide +kernel)) (
  zcons (zk_get (pc := 18) (ci := 4) (j := 3) rfl zinX4 (by decide) zw_243 (by decide +kernel)) (
  zcons (zk_iload_n (pc := 21) (j := 1) rfl (by decide +kernel)) (
  zcons (zk_isub (pc := 22) (by decide +kernel)) (
  zcons (zk_icgt (pc := 23) (off := 7) (by decide) (by decide +kernel)) (
  zcons (zk_iconst (pc := 26) (z := 1) (by decide) (by decide +kernel)) (
  zcons (zk_goto (pc := 27) (off := 4) (by decide) (by decide +kernel)) (
  zcons (zk_iconst (pc := 30) (z := 0) (by decide) (by decide +kernel)) (
  zcons (zk_retz (pc := 31) rfl (by decide +kernel)) (znil))))))))))))))))))
def tb_X4_put : List (Nat × ZP) := [(0, zo_al 0 1), (1, zo_get 4 2 4), (4, zo_ifne 18 7), (7, zo_al 0 8), (8, zo_getr 4 0 11), (11, zo_il 1 12), (12, zo_il 2 13), (13, zo_un (fun x => x.toInt8.toInt32) 14), (14, zo_iast 15), (15, zo_goto 44), (18, zo_al 0 19), (19, zo_get 4 2 22), (22, zo_i 1 23), (23, zo_icne 37 26), (26, zo_al 0 27), (27, zo_getr 4 0 30), (30, zo_il 1 31), (31, zo_il 2 32), (32, zo_un (fun x => x.toInt16.toInt32) 33), (33, zo_iast 34), (34, zo_goto 44), (37, zo_al 0 38), (38, zo_getr 4 0 41), (41, zo_il 1 42), (42, zo_il 2 43), (43, zo_iast 44), (44, zo_al 0 45), (45, zo_getr 4 0 48), (48, zo_il 1 49), (49, zo_iald 50), (50, zo_reti)]
def cu_X4_put : List (Nat × List Bool) := []
set_option maxRecDepth 100000 in
set_option maxHeartbeats 4000000 in
theorem ok_X4_put : ∀ e ∈ tb_X4_put, ZOK zmt cX4_put RX4 1 e.1 e.2 :=
  zcons (zk_aload_n (pc := 0) (j := 0) rfl (by decide +kernel)) (
  zcons (zk_get (pc := 1) (ci := 4) (j := 2) rfl zinX4 (by decide) zw_241 (by decide +kernel)) (
  zcons (zk_ifne (pc := 4) (off := 14) (by decide) (by decide +kernel)) (
  zcons (zk_aload_n (pc := 7) (j := 0) rfl (by decide +kernel)) (
  zcons (zk_getr (pc := 8) (ci := 4) (j := 0) rfl zinX4 (by decide) zw_236 (by decide +kernel)) (
  zcons (zk_iload_n (pc := 11) (j := 1) rfl (by decide +kernel)) (
  zcons (zk_iload_n (pc := 12) (j := 2) rfl (by decide +kernel)) (
  zcons (zk_i2b (pc := 13) (by decide +kernel)) (
  zcons (zk_iastore (pc := 14) (by decide +kernel)) (
  zcons (zk_goto (pc := 15) (off := 29) (by decide) (by decide +kernel)) (
  zcons (zk_aload_n (pc := 18) (j := 0) rfl (by decide +kernel)) (
  zcons (zk_get (pc := 19) (ci := 4) (j := 2) rfl zinX4 (by decide) zw_241 (by decide +kernel)) (
  zcons (zk_iconst (pc := 22) (z := 1) (by decide) (by decide +kernel)) (
  zcons (zk_icne (pc := 23) (off := 14) (by decide) (by decide +kernel)) (
  zcons (zk_aload_n (pc := 26) (j := 0) rfl (by decide +kernel)) (
  zcons (zk_getr (pc := 27) (ci := 4) (j := 0) rfl zinX4 (by decide) zw_236 (by decide +kernel)) (
  zcons (zk_iload_n (pc := 30) (j := 1) rfl (by decide +kernel)) (
  zcons (zk_iload_n (pc := 31) (j := 2) rfl (by decide +kernel)) (
  zcons (zk_i2s (pc := 32) (by decide +kernel)) (
  zcons (zk_iastore (pc := 33) (by decide +kernel)) (
  zcons (zk_goto (pc := 34) (off := 10) (by decide) (by decide +kernel)) (
  zcons (zk_aload_n (pc := 37) (j := 0) rfl (by decide +kernel)) (
  zcons (zk_getr (pc := 38) (ci := 4) (j := 0) rfl zinX4 (by decide) zw_236 (by decide +kernel)) (
  zcons (zk_iload_n (pc := 41) (j := 1) rfl (by decide +kernel)) (
  zcons (zk_iload_n (pc := 42) (j := 2) rfl (by decide +kernel)) (
  zcons (zk_iastore (pc := 43) (by decide +kernel)) (
  zcons (zk_aload_n (pc := 44) (j := 0) rfl (by decide +kernel)) (
  zcons (zk_getr (pc := 45) (ci := 4) (j := 0) rfl zinX4 (by decide) zw_236 (by decide +kernel)) (
  zcons (zk_iload_n (pc := 48) (j := 1) rfl (by decide +kernel)) (
  zcons (zk_iaload (pc := 49) (by decide +kernel)) (
  zcons (zk_reti (pc := 50) rfl (by decide +kernel)) (znil)))))))))))))))))))))))))))))))

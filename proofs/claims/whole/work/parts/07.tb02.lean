def tb_X2_weigh : List (Nat × ZP) := [(0, zo_i 0 1), (1, zo_is 2 2), (2, zo_il 2 3), (3, zo_al 0 4), (4, zo_get 2 3 7), (7, zo_icge 32 10), (10, zo_al 0 11), (11, zo_getr 2 2 14), (14, zo_il 2 15), (15, zo_al 1 16), (16, zo_al 0 17), (17, zo_getr 2 1 20), (20, zo_il 2 21), (21, zo_iald 22), (22, zo_cvi 5 68 1 25), (25, zo_iast 26), (26, zo_inc 2 1 29), (29, zo_goto 2), (32, zo_retv)]
def cu_X2_weigh : List (Nat × List Bool) := [(2, [true, true, true])]
set_option maxRecDepth 100000 in
set_option maxHeartbeats 4000000 in
theorem ok_X2_weigh : ∀ e ∈ tb_X2_weigh, ZOK zmt cX2_weigh RX2 0 e.1 e.2 :=
  zcons (zk_iconst (pc := 0) (z := 0) (by decide) (by decide +kernel)) (
  zcons (zk_istore_n (pc := 1) (j := 2) rfl (by decide +kernel)) (
  zcons (zk_iload_n (pc := 2) (j := 2) rfl (by decide +kernel)) (
  zcons (zk_aload_n (pc := 3) (j := 0) rfl (by decide +kernel)) (
  zcons (zk_get (pc := 4) (ci := 2) (j := 3) rfl zinX2 (by decide) zw_164 (by decide +kernel)) (
  zcons (zk_icge (pc := 7) (off := 25) (by decide) (by decide +kernel)) (
  zcons (zk_aload_n (pc := 10) (j := 0) rfl (by decide +kernel)) (
  zcons (zk_getr (pc := 11) (ci := 2) (j := 2) rfl zinX2 (by decide) zw_163 (by decide +kernel)) (
  zcons (zk_iload_n (pc := 14) (j := 2) rfl (by decide +kernel)) (
  zcons (zk_aload_n (pc := 15) (j := 1) rfl (by decide +kernel)) (
  zcons (zk_aload_n (pc := 16) (j := 0) rfl (by decide +kernel)) (
  zcons (zk_getr (pc := 17) (ci := 2) (j := 1) rfl zinX2 (by decide) zw_162 (by decide +kernel)) (
  zcons (zk_iload_n (pc := 20) (j := 2) rfl (by decide +kernel)) (
  zcons (zk_iaload (pc := 21) (by decide +kernel)) (
  zcons (zk_cviN (pc := 22) 68 rfl (ci := 5) rfl zw_615 zw_475 zsel_X5_paysOf zds_X5_paysOf (by decide) zw_476 zw_3 (by decide +kernel)) (
  zcons (zk_iastore (pc := 25) (by decide +kernel)) (
  zcons (zk_iinc (pc := 26) (z := 1) (by decide) (by decide +kernel)) (
  zcons (zk_goto (pc := 29) (off := (-27)) (by decide) (by decide +kernel)) (
  zcons (zk_retv (pc := 32) rfl (by decide +kernel)) (znil)))))))))))))))))))
def tb_X2_isPiece : List (Nat × ZP) := [(0, zo_il 2 1), (1, zo_ifle 32 4), (4, zo_il 2 5), (5, zo_i 1024 8), (8, zo_icge 32 11), (11, zo_al 1 12), (12, zo_il 2 13), (13, zo_cvi 5 62 1 16), (16, zo_ifeq 32 19), (19, zo_al 0 20), (20, zo_getr 2 0 23), (23, zo_il 2 24), (24, zo_zald 25), (25, zo_ifeq 32 28), (28, zo_i 1 29), (29, zo_goto 33), (32, zo_i 0 33), (33, zo_retz)]
def cu_X2_isPiece : List (Nat × List Bool) := []
set_option maxRecDepth 100000 in
set_option maxHeartbeats 4000000 in
theorem ok_X2_isPiece : ∀ e ∈ tb_X2_isPiece, ZOK zmt cX2_isPiece RX2 3 e.1 e.2 :=
  zcons (zk_iload_n (pc := 0) (j := 2) rfl (by decide +kernel)) (
  zcons (zk_ifle (pc := 1) (off := 31) (by decide) (by decide +kernel)) (
  zcons (zk_iload_n (pc := 4) (j := 2) rfl (by decide +kernel)) (
  zcons (zk_sipush (pc := 5) (z := 1024) (by decide) (by decide +kernel)) (
  zcons (zk_icge (pc := 8) (off := 24) (by decide) (by decide +kernel)) (
  zcons (zk_aload_n (pc := 11) (j := 1) rfl (by decide +kernel)) (
  zcons (zk_iload_n (pc := 12) (j := 2) rfl (by decide +kernel)) (
  zcons (zk_cviN (pc := 13) 62 rfl (ci := 5) rfl zw_465 zw_467 zsel_X5_holds zds_X5_holds (by decide) zw_468 zw_3 (by decide +kernel)) (
  zcons (zk_ifeq (pc := 16) (off := 16) (by decide) (by decide +kernel)) (
  zcons (zk_aload_n (pc := 19) (j := 0) rfl (by decide +kernel)) (
  zcons (zk_getr (pc := 20) (ci := 2) (j := 0) rfl zinX2 (by decide) zw_161 (by decide +kernel)) (
  zcons (zk_iload_n (pc := 23) (j := 2) rfl (by decide +kernel)) (
  zcons (zk_baloadz (pc := 24) (by decide +kernel)) (
  zcons (zk_ifeq (pc := 25) (off := 7) (by decide) (by decide +kernel)) (
  zcons (zk_iconst (pc := 28) (z := 1) (by decide) (by decide +kernel)) (
  zcons (zk_goto (pc := 29) (off := 4) (by decide) (by decide +kernel)) (
  zcons (zk_iconst (pc := 32) (z := 0) (by decide) (by decide +kernel)) (
  zcons (zk_retz (pc := 33) rfl (by decide +kernel)) (znil))))))))))))))))))
def tb_X2_couldServe : List (Nat × ZP) := [(0, zo_al 1 1), (1, zo_al 0 2), (2, zo_getr 2 1 5), (5, zo_il 3 6), (6, zo_iald 7), (7, zo_cvi 5 62 1 10), (10, zo_ifeq 31 13), (13, zo_al 1 14), (14, zo_il 2 15), (15, zo_al 0 16), (16, zo_getr 2 2 19), (19, zo_il 3 20), (20, zo_iald 21), (21, zo_cvi 5 64 2 24), (24, zo_ifeq 31 27), (27, zo_i 1 28), (28, zo_goto 32), (31, zo_i 0 32), (32, zo_retz)]
def cu_X2_couldServe : List (Nat × List Bool) := []
set_option maxRecDepth 100000 in
set_option maxHeartbeats 4000000 in
theorem ok_X2_couldServe : ∀ e ∈ tb_X2_couldServe, ZOK zmt cX2_couldServe RX2 3 e.1 e.2 :=
  zcons (zk_aload_n (pc := 0) (j := 1) rfl (by decide +kernel)) (
  zcons (zk_aload_n (pc := 1) (j := 0) rfl (by decide +kernel)) (
  zcons (zk_getr (pc := 2) (ci := 2) (j := 1) rfl zinX2 (by decide) zw_162 (by decide +kernel)) (
  zcons (zk_iload_n (pc := 5) (j := 3) rfl (by decide +kernel)) (
  zcons (zk_iaload (pc := 6) (by decide +kernel)) (
  zcons (zk_cviN (pc := 7) 62 rfl (ci := 5) rfl zw_465 zw_467 zsel_X5_holds zds_X5_holds (by decide) zw_468 zw_3 (by decide +kernel)) (
  zcons (zk_ifeq (pc := 10) (off := 21) (by decide) (by decide +kernel)) (
  zcons (zk_aload_n (pc := 13) (j := 1) rfl (by decide +kernel)) (
  zcons (zk_iload_n (pc := 14) (j := 2) rfl (by decide +kernel)) (
  zcons (zk_aload_n (pc := 15) (j := 0) rfl (by decide +kernel)) (
  zcons (zk_getr (pc := 16) (ci := 2) (j := 2) rfl zinX2 (by decide) zw_163 (by decide +kernel)) (
  zcons (zk_iload_n (pc := 19) (j := 3) rfl (by decide +kernel)) (
  zcons (zk_iaload (pc := 20) (by decide +kernel)) (
  zcons (zk_cviN (pc := 21) 64 rfl (ci := 5) rfl zw_652 zw_484 zsel_X5_suits zds_X5_suits (by decide) zw_485 zw_3 (by decide +kernel)) (
  zcons (zk_ifeq (pc := 24) (off := 7) (by decide) (by decide +kernel)) (
  zcons (zk_iconst (pc := 27) (z := 1) (by decide) (by decide +kernel)) (
  zcons (zk_goto (pc := 28) (off := 4) (by decide) (by decide +kernel)) (
  zcons (zk_iconst (pc := 31) (z := 0) (by decide) (by decide +kernel)) (
  zcons (zk_retz (pc := 32) rfl (by decide +kernel)) (znil)))))))))))))))))))
def tb_X2_countAll : List (Nat × ZP) := [(0, zo_i 0 1), (1, zo_is 2 2), (2, zo_i 0 3), (3, zo_is 3 4), (4, zo_il 3 5), (5, zo_al 0 6), (6, zo_get 2 3 9), (9, zo_icge 39 12), (12, zo_il 2 13), (13, zo_al 1 14), (14, zo_al 0 15), (15, zo_getr 2 1 18), (18, zo_il 3 19), (19, zo_iald 20), (20, zo_cvi 5 62 1 23), (23, zo_ifeq 30 26), (26, zo_i 1 27), (27, zo_goto 31), (30, zo_i 0 31), (31, zo_bin (· + ·) 32), (32, zo_is 2 33), (33, zo_inc 3 1 36), (36, zo_goto 4), (39, zo_il 2 40), (40, zo_reti)]
def cu_X2_countAll : List (Nat × List Bool) := [(4, [true, true, true, true])]
set_option maxRecDepth 100000 in
set_option maxHeartbeats 4000000 in
theorem ok_X2_countAll : ∀ e ∈ tb_X2_countAll, ZOK zmt cX2_countAll RX2 1 e.1 e.2 :=
  zcons (zk_iconst (pc := 0) (z := 0) (by decide) (by decide +kernel)) (
  zcons (zk_istore_n (pc := 1) (j := 2) rfl (by decide +kernel)) (
  zcons (zk_iconst (pc := 2) (z := 0) (by decide) (by decide +kernel)) (
  zcons (zk_istore_n (pc := 3) (j := 3) rfl (by decide +kernel)) (
  zcons (zk_iload_n (pc := 4) (j := 3) rfl (by decide +kernel)) (
  zcons (zk_aload_n (pc := 5) (j := 0) rfl (by decide +kernel)) (
  zcons (zk_get (pc := 6) (ci := 2) (j := 3) rfl zinX2 (by decide) zw_164 (by decide +kernel)) (
  zcons (zk_icge (pc := 9) (off := 30) (by decide) (by decide +kernel)) (
  zcons (zk_iload_n (pc := 12) (j := 2) rfl (by decide +kernel)) (
  zcons (zk_aload_n (pc := 13) (j := 1) rfl (by decide +kernel)) (
  zcons (zk_aload_n (pc := 14) (j := 0) rfl (by decide +kernel)) (
  zcons (zk_getr (pc := 15) (ci := 2) (j := 1) rfl zinX2 (by decide) zw_162 (by decide +kernel)) (
  zcons (zk_iload_n (pc := 18) (j := 3) rfl (by decide +kernel)) (
  zcons (zk_iaload (pc := 19) (by decide +kernel)) (
  zcons (zk_cviN (pc := 20) 62 rfl (ci := 5) rfl zw_465 zw_467 zsel_X5_holds zds_X5_holds (by decide) zw_468 zw_3 (by decide +kernel)) (
  zcons (zk_ifeq (pc := 23) (off := 7) (by decide) (by decide +kernel)) (
  zcons (zk_iconst (pc := 26) (z := 1) (by decide) (by decide +kernel)) (
  zcons (zk_goto (pc := 27) (off := 4) (by decide) (by decide +kernel)) (
  zcons (zk_iconst (pc := 30) (z := 0) (by decide) (by decide +kernel)) (
  zcons (zk_iadd (pc := 31) (by decide +kernel)) (
  zcons (zk_istore_n (pc := 32) (j := 2) rfl (by decide +kernel)) (
  zcons (zk_iinc (pc := 33) (z := 1) (by decide) (by decide +kernel)) (
  zcons (zk_goto (pc := 36) (off := (-32)) (by decide) (by decide +kernel)) (
  zcons (zk_iload_n (pc := 39) (j := 2) rfl (by decide +kernel)) (
  zcons (zk_reti (pc := 40) rfl (by decide +kernel)) (znil)))))))))))))))))))))))))
def tb_X2_countOf : List (Nat × ZP) := [(0, zo_i 0 1), (1, zo_is 4 3), (3, zo_i 0 4), (4, zo_is 5 6), (6, zo_il 5 8), (8, zo_al 0 9), (9, zo_get 2 3 12), (12, zo_icge 72 15), (15, zo_al 0 16), (16, zo_getr 2 1 19), (19, zo_il 5 21), (21, zo_iald 22), (22, zo_is 6 24), (24, zo_il 6 26), (26, zo_csi 233 1 29), (29, zo_il 2 30), (30, zo_icne 66 33), (33, zo_al 1 34), (34, zo_il 6 36), (36, zo_cvi 5 62 1 39), (39, zo_ifeq 66 42), (42, zo_il 4 44), (44, zo_il 3 45), (45, zo_ifeq 58 48), (48, zo_al 0 49), (49, zo_al 1 50), (50, zo_il 6 52), (52, zo_cvi 2 16 2 55), (55, zo_ifeq 62 58), (58, zo_i 1 59), (59, zo_goto 63), (62, zo_i 0 63), (63, zo_bin (· + ·) 64), (64, zo_is 4 66), (66, zo_inc 5 1 69), (69, zo_goto 6), (72, zo_il 4 74), (74, zo_reti)]
def cu_X2_countOf : List (Nat × List Bool) := [(6, [true, true, true, true, true, true, false])]
set_option maxRecDepth 100000 in
set_option maxHeartbeats 4000000 in
theorem ok_X2_countOf : ∀ e ∈ tb_X2_countOf, ZOK zmt cX2_countOf RX2 1 e.1 e.2 :=
  zcons (zk_iconst (pc := 0) (z := 0) (by decide) (by decide +kernel)) (
  zcons (zk_istore (pc := 1) (by decide +kernel)) (
  zcons (zk_iconst (pc := 3) (z := 0) (by decide) (by decide +kernel)) (
  zcons (zk_istore (pc := 4) (by decide +kernel)) (
  zcons (zk_iload (pc := 6) (by decide +kernel)) (
  zcons (zk_aload_n (pc := 8) (j := 0) rfl (by decide +kernel)) (
  zcons (zk_get (pc := 9) (ci := 2) (j := 3) rfl zinX2 (by decide) zw_164 (by decide +kernel)) (
  zcons (zk_icge (pc := 12) (off := 60) (by decide) (by decide +kernel)) (
  zcons (zk_aload_n (pc := 15) (j := 0) rfl (by decide +kernel)) (
  zcons (zk_getr (pc := 16) (ci := 2) (j := 1) rfl zinX2 (by decide) zw_162 (by decide +kernel)) (
  zcons (zk_iload (pc := 19) (by decide +kernel)) (
  zcons (zk_iaload (pc := 21) (by decide +kernel)) (
  zcons (zk_istore (pc := 22) (by decide +kernel)) (
  zcons (zk_iload (pc := 24) (by decide +kernel)) (
  zcons (zk_csi (pc := 26) 233 rfl zw_422 zw_423 zds_J6_bitCount_0f7a4 (by decide) zw_424 zw_13 (by decide +kernel)) (
  zcons (zk_iload_n (pc := 29) (j := 2) rfl (by decide +kernel)) (
  zcons (zk_icne (pc := 30) (off := 36) (by decide) (by decide +kernel)) (
  zcons (zk_aload_n (pc := 33) (j := 1) rfl (by decide +kernel)) (
  zcons (zk_iload (pc := 34) (by decide +kernel)) (
  zcons (zk_cviN (pc := 36) 62 rfl (ci := 5) rfl zw_465 zw_467 zsel_X5_holds zds_X5_holds (by decide) zw_468 zw_3 (by decide +kernel)) (
  zcons (zk_ifeq (pc := 39) (off := 27) (by decide) (by decide +kernel)) (
  zcons (zk_iload (pc := 42) (by decide +kernel)) (
  zcons (zk_iload_n (pc := 44) (j := 3) rfl (by decide +kernel)) (
  zcons (zk_ifeq (pc := 45) (off := 13) (by decide) (by decide +kernel)) (
  zcons (zk_aload_n (pc := 48) (j := 0) rfl (by decide +kernel)) (
  zcons (zk_aload_n (pc := 49) (j := 1) rfl (by decide +kernel)) (
  zcons (zk_iload (pc := 50) (by decide +kernel)) (
  zcons (zk_cvi (pc := 52) 16 rfl (ci := 2) rfl zw_599 zw_601 zsel_X2_isStraight zds_X2_isStraight (by decide) zw_602 zw_5 (by decide +kernel)) (
  zcons (zk_ifeq (pc := 55) (off := 7) (by decide) (by decide +kernel)) (
  zcons (zk_iconst (pc := 58) (z := 1) (by decide) (by decide +kernel)) (
  zcons (zk_goto (pc := 59) (off := 4) (by decide) (by decide +kernel)) (
  zcons (zk_iconst (pc := 62) (z := 0) (by decide) (by decide +kernel)) (
  zcons (zk_iadd (pc := 63) (by decide +kernel)) (
  zcons (zk_istore (pc := 64) (by decide +kernel)) (
  zcons (zk_iinc (pc := 66) (z := 1) (by decide) (by decide +kernel)) (
  zcons (zk_goto (pc := 69) (off := (-63)) (by decide) (by decide +kernel)) (
  zcons (zk_iload (pc := 72) (by decide +kernel)) (
  zcons (zk_reti (pc := 74) rfl (by decide +kernel)) (znil))))))))))))))))))))))))))))))))))))))
def tb_X2_isStraight : List (Nat × ZP) := [(0, zo_al 1 1), (1, zo_get 5 0 4), (4, zo_i 1 5), (5, zo_icge 10 8), (8, zo_i 0 9), (9, zo_retz), (10, zo_il 2 11), (11, zo_csi 232 1 14), (14, zo_is 3 15), (15, zo_i 1 16), (16, zo_is 4 18), (18, zo_i 1 19), (19, zo_is 5 21), (21, zo_i 0 22), (22, zo_is 6 24), (24, zo_il 6 26), (26, zo_al 1 27), (27, zo_get 5 1 30), (30, zo_icge 100 33), (33, zo_il 2 34), (34, zo_il 6 36), (36, zo_bin zshr 37), (37, zo_i 1 38), (38, zo_bin (· &&& ·) 39), (39, zo_ifeq 94 42), (42, zo_il 4 44), (44, zo_il 6 46), (46, zo_al 1 47), (47, zo_get 5 0 50), (50, zo_dv (· / ·) 51), (51, zo_il 3 52), (52, zo_al 1 53), (53, zo_get 5 0 56), (56, zo_dv (· / ·) 57), (57, zo_icne 64 60), (60, zo_i 1 61), (61, zo_goto 65), (64, zo_i 0 65), (65, zo_bin (· &&& ·) 66), (66, zo_is 4 68), (68, zo_il 5 70), (70, zo_il 6 72), (72, zo_al 1 73), (73, zo_get 5 0 76), (76, zo_dv zrem 77), (77, zo_il 3 78), (78, zo_al 1 79), (79, zo_get 5 0 82), (82, zo_dv zrem 83), (83, zo_icne 90 86), (86, zo_i 1 87), (87, zo_goto 91), (90, zo_i 0 91), (91, zo_bin (· &&& ·) 92), (92, zo_is 5 94), (94, zo_inc 6 1 97), (97, zo_goto 24), (100, zo_il 4 102), (102, zo_ifne 110 105), (105, zo_il 5 107), (107, zo_ifeq 114 110), (110, zo_i 1 111), (111, zo_goto 115), (114, zo_i 0 115), (115, zo_retz)]
def cu_X2_isStraight : List (Nat × List Bool) := [(24, [false, true, true, true, true, true, true])]
set_option maxRecDepth 100000 in
set_option maxHeartbeats 4000000 in
theorem ok_X2_isStraight : ∀ e ∈ tb_X2_isStraight, ZOK zmt cX2_isStraight RX2 3 e.1 e.2 :=
  zcons (zk_aload_n (pc := 0) (j := 1) rfl (by decide +kernel)) (
  zcons (zk_getN (pc := 1) (ci := 5) (j := 0) rfl zinX5 (by decide) zw_63 (by decide +kernel)) (
  zcons (zk_iconst (pc := 4) (z := 1) (by decide) (by decide +kernel)) (
  zcons (zk_icge (pc := 5) (off := 5) (by decide) (by decide +kernel)) (
  zcons (zk_iconst (pc := 8) (z := 0) (by decide) (by decide +kernel)) (
  zcons (zk_retz (pc := 9) rfl (by decide +kernel)) (
  zcons (zk_iload_n (pc := 10) (j := 2) rfl (by decide +kernel)) (
  zcons (zk_csi (pc := 11) 232 rfl zw_603 zw_604 zds_J6_numberOfTrailingZeros_0f7a4 (by decide) zw_605 zw_13 (by decide +kernel)) (
  zcons (zk_istore_n (pc := 14) (j := 3) rfl (by decide +kernel)) (
  zcons (zk_iconst (pc := 15) (z := 1) (by decide) (by decide +kernel)) (
  zcons (zk_istore (pc := 16) (by decide +kernel)) (
  zcons (zk_iconst (pc := 18) (z := 1) (by decide) (by decide +kernel)) (
  zcons (zk_istore (pc := 19) (by decide +kernel)) (
  zcons (zk_iconst (pc := 21) (z := 0) (by decide) (by decide +kernel)) (
  zcons (zk_istore (pc := 22) (by decide +kernel)) (
  zcons (zk_iload (pc := 24) (by decide +kernel)) (
  zcons (zk_aload_n (pc := 26) (j := 1) rfl (by decide +kernel)) (
  zcons (zk_getN (pc := 27) (ci := 5) (j := 1) rfl zinX5 (by decide) zw_65 (by decide +kernel)) (
  zcons (zk_icge (pc := 30) (off := 70) (by decide) (by decide +kernel)) (
  zcons (zk_iload_n (pc := 33) (j := 2) rfl (by decide +kernel)) (
  zcons (zk_iload (pc := 34) (by decide +kernel)) (
  zcons (zk_ishr (pc := 36) (by decide +kernel)) (
  zcons (zk_iconst (pc := 37) (z := 1) (by decide) (by decide +kernel)) (
  zcons (zk_iand (pc := 38) (by decide +kernel)) (
  zcons (zk_ifeq (pc := 39) (off := 55) (by decide) (by decide +kernel)) (
  zcons (zk_iload (pc := 42) (by decide +kernel)) (
  zcons (zk_iload (pc := 44) (by decide +kernel)) (
  zcons (zk_aload_n (pc := 46) (j := 1) rfl (by decide +kernel)) (
  zcons (zk_getN (pc := 47) (ci := 5) (j := 0) rfl zinX5 (by decide) zw_63 (by decide +kernel)) (
  zcons (zk_idiv (pc := 50) (by decide +kernel)) (
  zcons (zk_iload_n (pc := 51) (j := 3) rfl (by decide +kernel)) (
  zcons (zk_aload_n (pc := 52) (j := 1) rfl (by decide +kernel)) (
  zcons (zk_getN (pc := 53) (ci := 5) (j := 0) rfl zinX5 (by decide) zw_63 (by decide +kernel)) (
  zcons (zk_idiv (pc := 56) (by decide +kernel)) (
  zcons (zk_icne (pc := 57) (off := 7) (by decide) (by decide +kernel)) (
  zcons (zk_iconst (pc := 60) (z := 1) (by decide) (by decide +kernel)) (
  zcons (zk_goto (pc := 61) (off := 4) (by decide) (by decide +kernel)) (
  zcons (zk_iconst (pc := 64) (z := 0) (by decide) (by decide +kernel)) (
  zcons (zk_iand (pc := 65) (by decide +kernel)) (
  zcons (zk_istore (pc := 66) (by decide +kernel)) (
  zcons (zk_iload (pc := 68) (by decide +kernel)) (
  zcons (zk_iload (pc := 70) (by decide +kernel)) (
  zcons (zk_aload_n (pc := 72) (j := 1) rfl (by decide +kernel)) (
  zcons (zk_getN (pc := 73) (ci := 5) (j := 0) rfl zinX5 (by decide) zw_63 (by decide +kernel)) (
  zcons (zk_irem (pc := 76) (by decide +kernel)) (
  zcons (zk_iload_n (pc := 77) (j := 3) rfl (by decide +kernel)) (
  zcons (zk_aload_n (pc := 78) (j := 1) rfl (by decide +kernel)) (
  zcons (zk_getN (pc := 79) (ci := 5) (j := 0) rfl zinX5 (by decide) zw_63 (by decide +kernel)) (
  zcons (zk_irem (pc := 82) (by decide +kernel)) (
  zcons (zk_icne (pc := 83) (off := 7) (by decide) (by decide +kernel)) (
  zcons (zk_iconst (pc := 86) (z := 1) (by decide) (by decide +kernel)) (
  zcons (zk_goto (pc := 87) (off := 4) (by decide) (by decide +kernel)) (
  zcons (zk_iconst (pc := 90) (z := 0) (by decide) (by decide +kernel)) (
  zcons (zk_iand (pc := 91) (by decide +kernel)) (
  zcons (zk_istore (pc := 92) (by decide +kernel)) (
  zcons (zk_iinc (pc := 94) (z := 1) (by decide) (by decide +kernel)) (
  zcons (zk_goto (pc := 97) (off := (-73)) (by decide) (by decide +kernel)) (
  zcons (zk_iload (pc := 100) (by decide +kernel)) (
  zcons (zk_ifne (pc := 102) (off := 8) (by decide) (by decide +kernel)) (
  zcons (zk_iload (pc := 105) (by decide +kernel)) (
  zcons (zk_ifeq (pc := 107) (off := 7) (by decide) (by decide +kernel)) (
  zcons (zk_iconst (pc := 110) (z := 1) (by decide) (by decide +kernel)) (
  zcons (zk_goto (pc := 111) (off := 4) (by decide) (by decide +kernel)) (
  zcons (zk_iconst (pc := 114) (z := 0) (by decide) (by decide +kernel)) (
  zcons (zk_retz (pc := 115) rfl (by decide +kernel)) (znil)))))))))))))))))))))))))))))))))))))))))))))))))))))))))))))))))
def tb_X2_markSums : List (Nat × ZP) := [(0, zo_al 0 1), (1, zo_getr 2 6 4), (4, zo_i 0 5), (5, zo_csv 237 2 8), (8, zo_i 0 9), (9, zo_is 2 10), (10, zo_il 2 11), (11, zo_al 0 12), (12, zo_get 2 3 15), (15, zo_icge 69 18), (18, zo_al 1 19), (19, zo_al 0 20), (20, zo_getr 2 1 23), (23, zo_il 2 24), (24, zo_iald 25), (25, zo_cvi 5 62 1 28), (28, zo_ifeq 63 31), (31, zo_al 0 32), (32, zo_getr 2 2 35), (35, zo_il 2 36), (36, zo_iald 37), (37, zo_iflt 63 40), (40, zo_al 0 41), (41, zo_getr 2 2 44), (44, zo_il 2 45), (45, zo_iald 46), (46, zo_i 100 48), (48, zo_icge 63 51), (51, zo_al 0 52), (52, zo_getr 2 6 55), (55, zo_al 0 56), (56, zo_getr 2 2 59), (59, zo_il 2 60), (60, zo_iald 61), (61, zo_i 1 62), (62, zo_iast 63), (63, zo_inc 2 1 66), (66, zo_goto 10), (69, zo_retv)]
def cu_X2_markSums : List (Nat × List Bool) := [(10, [true, true, true])]
set_option maxRecDepth 100000 in
set_option maxHeartbeats 4000000 in
theorem ok_X2_markSums : ∀ e ∈ tb_X2_markSums, ZOK zmt cX2_markSums RX2 0 e.1 e.2 :=
  zcons (zk_aload_n (pc := 0) (j := 0) rfl (by decide +kernel)) (
  zcons (zk_getr (pc := 1) (ci := 2) (j := 6) rfl zinX2 (by decide) zw_167 (by decide +kernel)) (
  zcons (zk_iconst (pc := 4) (z := 0) (by decide) (by decide +kernel)) (
  zcons (zk_csv (pc := 5) 237 rfl zw_627 zw_303 zds_J7_fill_53178 (by decide) zw_304 zw_10 (by decide +kernel)) (
  zcons (zk_iconst (pc := 8) (z := 0) (by decide) (by decide +kernel)) (
  zcons (zk_istore_n (pc := 9) (j := 2) rfl (by decide +kernel)) (
  zcons (zk_iload_n (pc := 10) (j := 2) rfl (by decide +kernel)) (
  zcons (zk_aload_n (pc := 11) (j := 0) rfl (by decide +kernel)) (
  zcons (zk_get (pc := 12) (ci := 2) (j := 3) rfl zinX2 (by decide) zw_164 (by decide +kernel)) (
  zcons (zk_icge (pc := 15) (off := 54) (by decide) (by decide +kernel)) (
  zcons (zk_aload_n (pc := 18) (j := 1) rfl (by decide +kernel)) (
  zcons (zk_aload_n (pc := 19) (j := 0) rfl (by decide +kernel)) (
  zcons (zk_getr (pc := 20) (ci := 2) (j := 1) rfl zinX2 (by decide) zw_162 (by decide +kernel)) (
  zcons (zk_iload_n (pc := 23) (j := 2) rfl (by decide +kernel)) (
  zcons (zk_iaload (pc := 24) (by decide +kernel)) (
  zcons (zk_cviN (pc := 25) 62 rfl (ci := 5) rfl zw_465 zw_467 zsel_X5_holds zds_X5_holds (by decide) zw_468 zw_3 (by decide +kernel)) (
  zcons (zk_ifeq (pc := 28) (off := 35) (by decide) (by decide +kernel)) (
  zcons (zk_aload_n (pc := 31) (j := 0) rfl (by decide +kernel)) (
  zcons (zk_getr (pc := 32) (ci := 2) (j := 2) rfl zinX2 (by decide) zw_163 (by decide +kernel)) (
  zcons (zk_iload_n (pc := 35) (j := 2) rfl (by decide +kernel)) (
  zcons (zk_iaload (pc := 36) (by decide +kernel)) (
  zcons (zk_iflt (pc := 37) (off := 26) (by decide) (by decide +kernel)) (
  zcons (zk_aload_n (pc := 40) (j := 0) rfl (by decide +kernel)) (
  zcons (zk_getr (pc := 41) (ci := 2) (j := 2) rfl zinX2 (by decide) zw_163 (by decide +kernel)) (
  zcons (zk_iload_n (pc := 44) (j := 2) rfl (by decide +kernel)) (
  zcons (zk_iaload (pc := 45) (by decide +kernel)) (
  zcons (zk_bipush (pc := 46) (z := 100) (by decide) (by decide +kernel)) (
  zcons (zk_icge (pc := 48) (off := 15) (by decide) (by decide +kernel)) (
  zcons (zk_aload_n (pc := 51) (j := 0) rfl (by decide +kernel)) (
  zcons (zk_getr (pc := 52) (ci := 2) (j := 6) rfl zinX2 (by decide) zw_167 (by decide +kernel)) (
  zcons (zk_aload_n (pc := 55) (j := 0) rfl (by decide +kernel)) (
  zcons (zk_getr (pc := 56) (ci := 2) (j := 2) rfl zinX2 (by decide) zw_163 (by decide +kernel)) (
  zcons (zk_iload_n (pc := 59) (j := 2) rfl (by decide +kernel)) (
  zcons (zk_iaload (pc := 60) (by decide +kernel)) (
  zcons (zk_iconst (pc := 61) (z := 1) (by decide) (by decide +kernel)) (
  zcons (zk_iastore (pc := 62) (by decide +kernel)) (
  zcons (zk_iinc (pc := 63) (z := 1) (by decide) (by decide +kernel)) (
  zcons (zk_goto (pc := 66) (off := (-56)) (by decide) (by decide +kernel)) (
  zcons (zk_retv (pc := 69) rfl (by decide +kernel)) (znil)))))))))))))))))))))))))))))))))))))))
def tb_X2_countSums : List (Nat × ZP) := [(0, zo_i 0 1), (1, zo_is 1 2), (2, zo_i 0 3), (3, zo_is 2 4), (4, zo_il 2 5), (5, zo_i 100 7), (7, zo_icge 25 10), (10, zo_il 1 11), (11, zo_al 0 12), (12, zo_getr 2 6 15), (15, zo_il 2 16), (16, zo_iald 17), (17, zo_bin (· + ·) 18), (18, zo_is 1 19), (19, zo_inc 2 1 22), (22, zo_goto 4), (25, zo_il 1 26), (26, zo_reti)]
def cu_X2_countSums : List (Nat × List Bool) := [(4, [true, true, true])]
set_option maxRecDepth 100000 in
set_option maxHeartbeats 4000000 in
theorem ok_X2_countSums : ∀ e ∈ tb_X2_countSums, ZOK zmt cX2_countSums RX2 1 e.1 e.2 :=
  zcons (zk_iconst (pc := 0) (z := 0) (by decide) (by decide +kernel)) (
  zcons (zk_istore_n (pc := 1) (j := 1) rfl (by decide +kernel)) (
  zcons (zk_iconst (pc := 2) (z := 0) (by decide) (by decide +kernel)) (
  zcons (zk_istore_n (pc := 3) (j := 2) rfl (by decide +kernel)) (
  zcons (zk_iload_n (pc := 4) (j := 2) rfl (by decide +kernel)) (
  zcons (zk_bipush (pc := 5) (z := 100) (by decide) (by decide +kernel)) (
  zcons (zk_icge (pc := 7) (off := 18) (by decide) (by decide +kernel)) (
  zcons (zk_iload_n (pc := 10) (j := 1) rfl (by decide +kernel)) (
  zcons (zk_aload_n (pc := 11) (j := 0) rfl (by decide +kernel)) (
  zcons (zk_getr (pc := 12) (ci := 2) (j := 6) rfl zinX2 (by decide) zw_167 (by decide +kernel)) (
  zcons (zk_iload_n (pc := 15) (j := 2) rfl (by decide +kernel)) (
  zcons (zk_iaload (pc := 16) (by decide +kernel)) (
  zcons (zk_iadd (pc := 17) (by decide +kernel)) (
  zcons (zk_istore_n (pc := 18) (j := 1) rfl (by decide +kernel)) (
  zcons (zk_iinc (pc := 19) (z := 1) (by decide) (by decide +kernel)) (
  zcons (zk_goto (pc := 22) (off := (-18)) (by decide) (by decide +kernel)) (
  zcons (zk_iload_n (pc := 25) (j := 1) rfl (by decide +kernel)) (
  zcons (zk_reti (pc := 26) rfl (by decide +kernel)) (znil))))))))))))))))))
def tb_X2_leastSumUnpaid : List (Nat × ZP) := [(0, zo_i 0 1), (1, zo_is 1 2), (2, zo_il 1 3), (3, zo_i 100 5), (5, zo_icge 25 8), (8, zo_al 0 9), (9, zo_getr 2 6 12), (12, zo_il 1 13), (13, zo_iald 14), (14, zo_ifne 19 17), (17, zo_il 1 18), (18, zo_reti), (19, zo_inc 1 1 22), (22, zo_goto 2), (25, zo_i (-1000000) 27), (27, zo_reti)]
def cu_X2_leastSumUnpaid : List (Nat × List Bool) := [(2, [true, true])]
set_option maxRecDepth 100000 in
set_option maxHeartbeats 4000000 in
theorem ok_X2_leastSumUnpaid : ∀ e ∈ tb_X2_leastSumUnpaid, ZOK zmt cX2_leastSumUnpaid RX2 1 e.1 e.2 :=
  zcons (zk_iconst (pc := 0) (z := 0) (by decide) (by decide +kernel)) (
  zcons (zk_istore_n (pc := 1) (j := 1) rfl (by decide +kernel)) (
  zcons (zk_iload_n (pc := 2) (j := 1) rfl (by decide +kernel)) (
  zcons (zk_bipush (pc := 3) (z := 100) (by decide) (by decide +kernel)) (
  zcons (zk_icge (pc := 5) (off := 20) (by decide) (by decide +kernel)) (
  zcons (zk_aload_n (pc := 8) (j := 0) rfl (by decide +kernel)) (
  zcons (zk_getr (pc := 9) (ci := 2) (j := 6) rfl zinX2 (by decide) zw_167 (by decide +kernel)) (
  zcons (zk_iload_n (pc := 12) (j := 1) rfl (by decide +kernel)) (
  zcons (zk_iaload (pc := 13) (by decide +kernel)) (
  zcons (zk_ifne (pc := 14) (off := 5) (by decide) (by decide +kernel)) (
  zcons (zk_iload_n (pc := 17) (j := 1) rfl (by decide +kernel)) (
  zcons (zk_reti (pc := 18) rfl (by decide +kernel)) (
  zcons (zk_iinc (pc := 19) (z := 1) (by decide) (by decide +kernel)) (
  zcons (zk_goto (pc := 22) (off := (-20)) (by decide) (by decide +kernel)) (
  zcons (zk_ldc (pc := 25) zw_636 (by decide +kernel)) (
  zcons (zk_reti (pc := 27) rfl (by decide +kernel)) (znil))))))))))))))))
def tb_X2_greatestSum : List (Nat × ZP) := [(0, zo_i 0 1), (1, zo_is 2 2), (2, zo_i 0 3), (3, zo_is 3 4), (4, zo_il 3 5), (5, zo_al 0 6), (6, zo_get 2 3 9), (9, zo_icge 42 12), (12, zo_al 1 13), (13, zo_al 0 14), (14, zo_getr 2 1 17), (17, zo_il 3 18), (18, zo_iald 19), (19, zo_cvi 5 62 1 22), (22, zo_ifeq 36 25), (25, zo_il 2 26), (26, zo_al 0 27), (27, zo_getr 2 2 30), (30, zo_il 3 31), (31, zo_iald 32), (32, zo_csi 234 2 35), (35, zo_is 2 36), (36, zo_inc 3 1 39), (39, zo_goto 4), (42, zo_il 2 43), (43, zo_reti)]
def cu_X2_greatestSum : List (Nat × List Bool) := [(4, [true, true, true, true])]
set_option maxRecDepth 100000 in
set_option maxHeartbeats 4000000 in
theorem ok_X2_greatestSum : ∀ e ∈ tb_X2_greatestSum, ZOK zmt cX2_greatestSum RX2 1 e.1 e.2 :=
  zcons (zk_iconst (pc := 0) (z := 0) (by decide) (by decide +kernel)) (
  zcons (zk_istore_n (pc := 1) (j := 2) rfl (by decide +kernel)) (
  zcons (zk_iconst (pc := 2) (z := 0) (by decide) (by decide +kernel)) (
  zcons (zk_istore_n (pc := 3) (j := 3) rfl (by decide +kernel)) (
  zcons (zk_iload_n (pc := 4) (j := 3) rfl (by decide +kernel)) (
  zcons (zk_aload_n (pc := 5) (j := 0) rfl (by decide +kernel)) (
  zcons (zk_get (pc := 6) (ci := 2) (j := 3) rfl zinX2 (by decide) zw_164 (by decide +kernel)) (
  zcons (zk_icge (pc := 9) (off := 33) (by decide) (by decide +kernel)) (
  zcons (zk_aload_n (pc := 12) (j := 1) rfl (by decide +kernel)) (
  zcons (zk_aload_n (pc := 13) (j := 0) rfl (by decide +kernel)) (
  zcons (zk_getr (pc := 14) (ci := 2) (j := 1) rfl zinX2 (by decide) zw_162 (by decide +kernel)) (
  zcons (zk_iload_n (pc := 17) (j := 3) rfl (by decide +kernel)) (
  zcons (zk_iaload (pc := 18) (by decide +kernel)) (
  zcons (zk_cviN (pc := 19) 62 rfl (ci := 5) rfl zw_465 zw_467 zsel_X5_holds zds_X5_holds (by decide) zw_468 zw_3 (by decide +kernel)) (
  zcons (zk_ifeq (pc := 22) (off := 14) (by decide) (by decide +kernel)) (
  zcons (zk_iload_n (pc := 25) (j := 2) rfl (by decide +kernel)) (
  zcons (zk_aload_n (pc := 26) (j := 0) rfl (by decide +kernel)) (
  zcons (zk_getr (pc := 27) (ci := 2) (j := 2) rfl zinX2 (by decide) zw_163 (by decide +kernel)) (
  zcons (zk_iload_n (pc := 30) (j := 3) rfl (by decide +kernel)) (
  zcons (zk_iaload (pc := 31) (by decide +kernel)) (
  zcons (zk_csi (pc := 32) 234 rfl zw_620 zw_621 zds_J9_max_7cf53 (by decide) zw_622 zw_12 (by decide +kernel)) (
  zcons (zk_istore_n (pc := 35) (j := 2) rfl (by decide +kernel)) (
  zcons (zk_iinc (pc := 36) (z := 1) (by decide) (by decide +kernel)) (
  zcons (zk_goto (pc := 39) (off := (-35)) (by decide) (by decide +kernel)) (
  zcons (zk_iload_n (pc := 42) (j := 2) rfl (by decide +kernel)) (
  zcons (zk_reti (pc := 43) rfl (by decide +kernel)) (znil))))))))))))))))))))))))))
def tb_X2_bestFor : List (Nat × ZP) := [(0, zo_i 0 1), (1, zo_is 3 2), (2, zo_i 0 3), (3, zo_is 4 5), (5, zo_i 0 6), (6, zo_is 5 8), (8, zo_il 5 10), (10, zo_al 0 11), (11, zo_get 2 3 14), (14, zo_icge 70 17), (17, zo_al 0 18), (18, zo_al 1 19), (19, zo_il 2 20), (20, zo_il 5 22), (22, zo_cvi 2 13 3 25), (25, zo_ifeq 64 28), (28, zo_al 1 29), (29, zo_al 0 30), (30, zo_getr 2 1 33), (33, zo_il 5 35), (35, zo_iald 36), (36, zo_csi 22 2 39), (39, zo_is 6 41), (41, zo_il 3 42), (42, zo_ifeq 52 45), (45, zo_il 6 47), (47, zo_il 4 49), (49, zo_icge 64 52), (52, zo_al 0 53), (53, zo_getr 2 1 56), (56, zo_il 5 58), (58, zo_iald 59), (59, zo_is 3 60), (60, zo_il 6 62), (62, zo_is 4 64), (64, zo_inc 5 1 67), (67, zo_goto 8), (70, zo_il 3 71), (71, zo_reti)]
def cu_X2_bestFor : List (Nat × List Bool) := [(8, [true, true, true, true, true, true, false])]
set_option maxRecDepth 100000 in
set_option maxHeartbeats 4000000 in
theorem ok_X2_bestFor : ∀ e ∈ tb_X2_bestFor, ZOK zmt cX2_bestFor RX2 1 e.1 e.2 :=
  zcons (zk_iconst (pc := 0) (z := 0) (by decide) (by decide +kernel)) (
  zcons (zk_istore_n (pc := 1) (j := 3) rfl (by decide +kernel)) (
  zcons (zk_iconst (pc := 2) (z := 0) (by decide) (by decide +kernel)) (
  zcons (zk_istore (pc := 3) (by decide +kernel)) (
  zcons (zk_iconst (pc := 5) (z := 0) (by decide) (by decide +kernel)) (
  zcons (zk_istore (pc := 6) (by decide +kernel)) (
  zcons (zk_iload (pc := 8) (by decide +kernel)) (
  zcons (zk_aload_n (pc := 10) (j := 0) rfl (by decide +kernel)) (
  zcons (zk_get (pc := 11) (ci := 2) (j := 3) rfl zinX2 (by decide) zw_164 (by decide +kernel)) (
  zcons (zk_icge (pc := 14) (off := 56) (by decide) (by decide +kernel)) (
  zcons (zk_aload_n (pc := 17) (j := 0) rfl (by decide +kernel)) (
  zcons (zk_aload_n (pc := 18) (j := 1) rfl (by decide +kernel)) (
  zcons (zk_iload_n (pc := 19) (j := 2) rfl (by decide +kernel)) (
  zcons (zk_iload (pc := 20) (by decide +kernel)) (
  zcons (zk_cvi (pc := 22) 13 rfl (ci := 2) rfl zw_648 zw_650 zsel_X2_couldServe zds_X2_couldServe (by decide) zw_651 zw_5 (by decide +kernel)) (
  zcons (zk_ifeq (pc := 25) (off := 39) (by decide) (by decide +kernel)) (
  zcons (zk_aload_n (pc := 28) (j := 1) rfl (by decide +kernel)) (
  zcons (zk_aload_n (pc := 29) (j := 0) rfl (by decide +kernel)) (
  zcons (zk_getr (pc := 30) (ci := 2) (j := 1) rfl zinX2 (by decide) zw_162 (by decide +kernel)) (
  zcons (zk_iload (pc := 33) (by decide +kernel)) (
  zcons (zk_iaload (pc := 35) (by decide +kernel)) (
  zcons (zk_csi (pc := 36) 22 rfl zw_653 zw_654 zds_X2_rankOf (by decide) zw_655 zw_5 (by decide +kernel)) (
  zcons (zk_istore (pc := 39) (by decide +kernel)) (
  zcons (zk_iload_n (pc := 41) (j := 3) rfl (by decide +kernel)) (
  zcons (zk_ifeq (pc := 42) (off := 10) (by decide) (by decide +kernel)) (
  zcons (zk_iload (pc := 45) (by decide +kernel)) (
  zcons (zk_iload (pc := 47) (by decide +kernel)) (
  zcons (zk_icge (pc := 49) (off := 15) (by decide) (by decide +kernel)) (
  zcons (zk_aload_n (pc := 52) (j := 0) rfl (by decide +kernel)) (
  zcons (zk_getr (pc := 53) (ci := 2) (j := 1) rfl zinX2 (by decide) zw_162 (by decide +kernel)) (
  zcons (zk_iload (pc := 56) (by decide +kernel)) (
  zcons (zk_iaload (pc := 58) (by decide +kernel)) (
  zcons (zk_istore_n (pc := 59) (j := 3) rfl (by decide +kernel)) (
  zcons (zk_iload (pc := 60) (by decide +kernel)) (
  zcons (zk_istore (pc := 62) (by decide +kernel)) (
  zcons (zk_iinc (pc := 64) (z := 1) (by decide) (by decide +kernel)) (
  zcons (zk_goto (pc := 67) (off := (-59)) (by decide) (by decide +kernel)) (
  zcons (zk_iload_n (pc := 70) (j := 3) rfl (by decide +kernel)) (
  zcons (zk_reti (pc := 71) rfl (by decide +kernel)) (znil)))))))))))))))))))))))))))))))))))))))
def tb_X2_rankOf : List (Nat × ZP) := [(0, zo_i 16 2), (2, zo_al 0 3), (3, zo_il 1 4), (4, zo_cvi 5 70 1 7), (7, zo_bin (· * ·) 8), (8, zo_il 1 9), (9, zo_csi 233 1 12), (12, zo_bin (· + ·) 13), (13, zo_reti)]
def cu_X2_rankOf : List (Nat × List Bool) := []
set_option maxRecDepth 100000 in
set_option maxHeartbeats 4000000 in
theorem ok_X2_rankOf : ∀ e ∈ tb_X2_rankOf, ZOK zmt cX2_rankOf RX2 1 e.1 e.2 :=
  zcons (zk_bipush (pc := 0) (z := 16) (by decide) (by decide +kernel)) (
  zcons (zk_aload_n (pc := 2) (j := 0) rfl (by decide +kernel)) (
  zcons (zk_iload_n (pc := 3) (j := 1) rfl (by decide +kernel)) (
  zcons (zk_cviN (pc := 4) 70 rfl (ci := 5) rfl zw_656 zw_488 zsel_X5_tearsOf zds_X5_tearsOf (by decide) zw_489 zw_3 (by decide +kernel)) (
  zcons (zk_imul (pc := 7) (by decide +kernel)) (
  zcons (zk_iload_n (pc := 8) (j := 1) rfl (by decide +kernel)) (
  zcons (zk_csi (pc := 9) 233 rfl zw_422 zw_423 zds_J6_bitCount_0f7a4 (by decide) zw_424 zw_13 (by decide +kernel)) (
  zcons (zk_iadd (pc := 12) (by decide +kernel)) (
  zcons (zk_reti (pc := 13) rfl (by decide +kernel)) (znil)))))))))
def tb_X2_countFor : List (Nat × ZP) := [(0, zo_i 0 1), (1, zo_is 3 2), (2, zo_i 0 3), (3, zo_is 4 5), (5, zo_il 4 7), (7, zo_al 0 8), (8, zo_get 2 3 11), (11, zo_icge 39 14), (14, zo_il 3 15), (15, zo_al 0 16), (16, zo_al 1 17), (17, zo_il 2 18), (18, zo_il 4 20), (20, zo_cvi 2 13 3 23), (23, zo_ifeq 30 26), (26, zo_i 1 27), (27, zo_goto 31), (30, zo_i 0 31), (31, zo_bin (· + ·) 32), (32, zo_is 3 33), (33, zo_inc 4 1 36), (36, zo_goto 5), (39, zo_il 3 40), (40, zo_reti)]
def cu_X2_countFor : List (Nat × List Bool) := [(5, [true, true, true, true, true])]
set_option maxRecDepth 100000 in
set_option maxHeartbeats 4000000 in
theorem ok_X2_countFor : ∀ e ∈ tb_X2_countFor, ZOK zmt cX2_countFor RX2 1 e.1 e.2 :=
  zcons (zk_iconst (pc := 0) (z := 0) (by decide) (by decide +kernel)) (
  zcons (zk_istore_n (pc := 1) (j := 3) rfl (by decide +kernel)) (
  zcons (zk_iconst (pc := 2) (z := 0) (by decide) (by decide +kernel)) (
  zcons (zk_istore (pc := 3) (by decide +kernel)) (
  zcons (zk_iload (pc := 5) (by decide +kernel)) (
  zcons (zk_aload_n (pc := 7) (j := 0) rfl (by decide +kernel)) (
  zcons (zk_get (pc := 8) (ci := 2) (j := 3) rfl zinX2 (by decide) zw_164 (by decide +kernel)) (
  zcons (zk_icge (pc := 11) (off := 28) (by decide) (by decide +kernel)) (
  zcons (zk_iload_n (pc := 14) (j := 3) rfl (by decide +kernel)) (
  zcons (zk_aload_n (pc := 15) (j := 0) rfl (by decide +kernel)) (
  zcons (zk_aload_n (pc := 16) (j := 1) rfl (by decide +kernel)) (
  zcons (zk_iload_n (pc := 17) (j := 2) rfl (by decide +kernel)) (
  zcons (zk_iload (pc := 18) (by decide +kernel)) (
  zcons (zk_cvi (pc := 20) 13 rfl (ci := 2) rfl zw_648 zw_650 zsel_X2_couldServe zds_X2_couldServe (by decide) zw_651 zw_5 (by decide +kernel)) (
  zcons (zk_ifeq (pc := 23) (off := 7) (by decide) (by decide +kernel)) (
  zcons (zk_iconst (pc := 26) (z := 1) (by decide) (by decide +kernel)) (
  zcons (zk_goto (pc := 27) (off := 4) (by decide) (by decide +kernel)) (
  zcons (zk_iconst (pc := 30) (z := 0) (by decide) (by decide +kernel)) (
  zcons (zk_iadd (pc := 31) (by decide +kernel)) (
  zcons (zk_istore_n (pc := 32) (j := 3) rfl (by decide +kernel)) (
  zcons (zk_iinc (pc := 33) (z := 1) (by decide) (by decide +kernel)) (
  zcons (zk_goto (pc := 36) (off := (-31)) (by decide) (by decide +kernel)) (
  zcons (zk_iload_n (pc := 39) (j := 3) rfl (by decide +kernel)) (
  zcons (zk_reti (pc := 40) rfl (by decide +kernel)) (znil))))))))))))))))))))))))
def tb_X2_cheapestFor : List (Nat × ZP) := [(0, zo_i 0 1), (1, zo_is 3 2), (2, zo_i 0 3), (3, zo_is 4 5), (5, zo_i 0 6), (6, zo_is 5 8), (8, zo_il 5 10), (10, zo_al 0 11), (11, zo_get 2 3 14), (14, zo_icge 79 17), (17, zo_il 3 18), (18, zo_ifeq 33 21), (21, zo_al 0 22), (22, zo_getr 2 2 25), (25, zo_il 5 27), (27, zo_iald 28), (28, zo_il 4 30), (30, zo_icge 37 33), (33, zo_i 1 34), (34, zo_goto 38), (37, zo_i 0 38), (38, zo_is 6 40), (40, zo_il 6 42), (42, zo_ifeq 73 45), (45, zo_al 0 46), (46, zo_al 1 47), (47, zo_il 2 48), (48, zo_il 5 50), (50, zo_cvi 2 13 3 53), (53, zo_ifeq 73 56), (56, zo_al 0 57), (57, zo_getr 2 1 60), (60, zo_il 5 62), (62, zo_iald 63), (63, zo_is 3 64), (64, zo_al 0 65), (65, zo_getr 2 2 68), (68, zo_il 5 70), (70, zo_iald 71), (71, zo_is 4 73), (73, zo_inc 5 1 76), (76, zo_goto 8), (79, zo_il 3 80), (80, zo_reti)]
def cu_X2_cheapestFor : List (Nat × List Bool) := [(8, [true, true, true, true, true, true, false])]
set_option maxRecDepth 100000 in
set_option maxHeartbeats 4000000 in
theorem ok_X2_cheapestFor : ∀ e ∈ tb_X2_cheapestFor, ZOK zmt cX2_cheapestFor RX2 1 e.1 e.2 :=
  zcons (zk_iconst (pc := 0) (z := 0) (by decide) (by decide +kernel)) (
  zcons (zk_istore_n (pc := 1) (j := 3) rfl (by decide +kernel)) (
  zcons (zk_iconst (pc := 2) (z := 0) (by decide) (by decide +kernel)) (
  zcons (zk_istore (pc := 3) (by decide +kernel)) (
  zcons (zk_iconst (pc := 5) (z := 0) (by decide) (by decide +kernel)) (
  zcons (zk_istore (pc := 6) (by decide +kernel)) (
  zcons (zk_iload (pc := 8) (by decide +kernel)) (
  zcons (zk_aload_n (pc := 10) (j := 0) rfl (by decide +kernel)) (
  zcons (zk_get (pc := 11) (ci := 2) (j := 3) rfl zinX2 (by decide) zw_164 (by decide +kernel)) (
  zcons (zk_icge (pc := 14) (off := 65) (by decide) (by decide +kernel)) (
  zcons (zk_iload_n (pc := 17) (j := 3) rfl (by decide +kernel)) (
  zcons (zk_ifeq (pc := 18) (off := 15) (by decide) (by decide +kernel)) (
  zcons (zk_aload_n (pc := 21) (j := 0) rfl (by decide +kernel)) (
  zcons (zk_getr (pc := 22) (ci := 2) (j := 2) rfl zinX2 (by decide) zw_163 (by decide +kernel)) (
  zcons (zk_iload (pc := 25) (by decide +kernel)) (
  zcons (zk_iaload (pc := 27) (by decide +kernel)) (
  zcons (zk_iload (pc := 28) (by decide +kernel)) (
  zcons (zk_icge (pc := 30) (off := 7) (by decide) (by decide +kernel)) (
  zcons (zk_iconst (pc := 33) (z := 1) (by decide) (by decide +kernel)) (
  zcons (zk_goto (pc := 34) (off := 4) (by decide) (by decide +kernel)) (
  zcons (zk_iconst (pc := 37) (z := 0) (by decide) (by decide +kernel)) (
  zcons (zk_istore (pc := 38) (by decide +kernel)) (
  zcons (zk_iload (pc := 40) (by decide +kernel)) (
  zcons (zk_ifeq (pc := 42) (off := 31) (by decide) (by decide +kernel)) (
  zcons (zk_aload_n (pc := 45) (j := 0) rfl (by decide +kernel)) (
  zcons (zk_aload_n (pc := 46) (j := 1) rfl (by decide +kernel)) (
  zcons (zk_iload_n (pc := 47) (j := 2) rfl (by decide +kernel)) (
  zcons (zk_iload (pc := 48) (by decide +kernel)) (
  zcons (zk_cvi (pc := 50) 13 rfl (ci := 2) rfl zw_648 zw_650 zsel_X2_couldServe zds_X2_couldServe (by decide) zw_651 zw_5 (by decide +kernel)) (
  zcons (zk_ifeq (pc := 53) (off := 20) (by decide) (by decide +kernel)) (
  zcons (zk_aload_n (pc := 56) (j := 0) rfl (by decide +kernel)) (
  zcons (zk_getr (pc := 57) (ci := 2) (j := 1) rfl zinX2 (by decide) zw_162 (by decide +kernel)) (
  zcons (zk_iload (pc := 60) (by decide +kernel)) (
  zcons (zk_iaload (pc := 62) (by decide +kernel)) (
  zcons (zk_istore_n (pc := 63) (j := 3) rfl (by decide +kernel)) (
  zcons (zk_aload_n (pc := 64) (j := 0) rfl (by decide +kernel)) (
  zcons (zk_getr (pc := 65) (ci := 2) (j := 2) rfl zinX2 (by decide) zw_163 (by decide +kernel)) (
  zcons (zk_iload (pc := 68) (by decide +kernel)) (
  zcons (zk_iaload (pc := 70) (by decide +kernel)) (
  zcons (zk_istore (pc := 71) (by decide +kernel)) (
  zcons (zk_iinc (pc := 73) (z := 1) (by decide) (by decide +kernel)) (
  zcons (zk_goto (pc := 76) (off := (-68)) (by decide) (by decide +kernel)) (
  zcons (zk_iload_n (pc := 79) (j := 3) rfl (by decide +kernel)) (
  zcons (zk_reti (pc := 80) rfl (by decide +kernel)) (znil))))))))))))))))))))))))))))))))))))))))))))
def tb_X2_mostServed : List (Nat × ZP) := [(0, zo_al 0 1), (1, zo_al 1 2), (2, zo_cvv 2 26 1 5), (5, zo_al 0 6), (6, zo_al 1 7), (7, zo_cvv 2 28 1 10), (10, zo_i 0 11), (11, zo_is 2 12), (12, zo_i 1 13), (13, zo_is 3 14), (14, zo_il 3 15), (15, zo_i 32 17), (17, zo_icge 51 20), (20, zo_al 0 21), (21, zo_al 1 22), (22, zo_get 5 5 25), (25, zo_il 3 26), (26, zo_cvi 2 31 2 29), (29, zo_ifeq 45 32), (32, zo_il 3 33), (33, zo_csi 233 1 36), (36, zo_il 2 37), (37, zo_csi 233 1 40), (40, zo_icle 45 43), (43, zo_il 3 44), (44, zo_is 2 45), (45, zo_inc 3 1 48), (48, zo_goto 14), (51, zo_il 2 52), (52, zo_reti)]
def cu_X2_mostServed : List (Nat × List Bool) := [(14, [true, true, true, true])]
set_option maxRecDepth 100000 in
set_option maxHeartbeats 4000000 in
theorem ok_X2_mostServed : ∀ e ∈ tb_X2_mostServed, ZOK zmt cX2_mostServed RX2 1 e.1 e.2 :=
  zcons (zk_aload_n (pc := 0) (j := 0) rfl (by decide +kernel)) (
  zcons (zk_aload_n (pc := 1) (j := 1) rfl (by decide +kernel)) (
  zcons (zk_cvv (pc := 2) 26 rfl (ci := 2) rfl zw_682 zw_684 zsel_X2_findSuited zds_X2_findSuited (by decide) zw_685 zw_5 (by decide +kernel)) (
  zcons (zk_aload_n (pc := 5) (j := 0) rfl (by decide +kernel)) (
  zcons (zk_aload_n (pc := 6) (j := 1) rfl (by decide +kernel)) (
  zcons (zk_cvv (pc := 7) 28 rfl (ci := 2) rfl zw_691 zw_693 zsel_X2_findServable zds_X2_findServable (by decide) zw_694 zw_5 (by decide +kernel)) (
  zcons (zk_iconst (pc := 10) (z := 0) (by decide) (by decide +kernel)) (
  zcons (zk_istore_n (pc := 11) (j := 2) rfl (by decide +kernel)) (
  zcons (zk_iconst (pc := 12) (z := 1) (by decide) (by decide +kernel)) (
  zcons (zk_istore_n (pc := 13) (j := 3) rfl (by decide +kernel)) (
  zcons (zk_iload_n (pc := 14) (j := 3) rfl (by decide +kernel)) (
  zcons (zk_bipush (pc := 15) (z := 32) (by decide) (by decide +kernel)) (
  zcons (zk_icge (pc := 17) (off := 34) (by decide) (by decide +kernel)) (
  zcons (zk_aload_n (pc := 20) (j := 0) rfl (by decide +kernel)) (
  zcons (zk_aload_n (pc := 21) (j := 1) rfl (by decide +kernel)) (
  zcons (zk_getN (pc := 22) (ci := 5) (j := 5) rfl zinX5 (by decide) zw_81 (by decide +kernel)) (
  zcons (zk_iload_n (pc := 25) (j := 3) rfl (by decide +kernel)) (
  zcons (zk_cvi (pc := 26) 31 rfl (ci := 2) rfl zw_705 zw_707 zsel_X2_canServe zds_X2_canServe (by decide) zw_708 zw_5 (by decide +kernel)) (
  zcons (zk_ifeq (pc := 29) (off := 16) (by decide) (by decide +kernel)) (
  zcons (zk_iload_n (pc := 32) (j := 3) rfl (by decide +kernel)) (
  zcons (zk_csi (pc := 33) 233 rfl zw_422 zw_423 zds_J6_bitCount_0f7a4 (by decide) zw_424 zw_13 (by decide +kernel)) (
  zcons (zk_iload_n (pc := 36) (j := 2) rfl (by decide +kernel)) (
  zcons (zk_csi (pc := 37) 233 rfl zw_422 zw_423 zds_J6_bitCount_0f7a4 (by decide) zw_424 zw_13 (by decide +kernel)) (
  zcons (zk_icle (pc := 40) (off := 5) (by decide) (by decide +kernel)) (
  zcons (zk_iload_n (pc := 43) (j := 3) rfl (by decide +kernel)) (
  zcons (zk_istore_n (pc := 44) (j := 2) rfl (by decide +kernel)) (
  zcons (zk_iinc (pc := 45) (z := 1) (by decide) (by decide +kernel)) (
  zcons (zk_goto (pc := 48) (off := (-34)) (by decide) (by decide +kernel)) (
  zcons (zk_iload_n (pc := 51) (j := 2) rfl (by decide +kernel)) (
  zcons (zk_reti (pc := 52) rfl (by decide +kernel)) (znil))))))))))))))))))))))))))))))
def tb_X2_findSuited : List (Nat × ZP) := [(0, zo_al 0 1), (1, zo_getr 2 4 4), (4, zo_i 0 5), (5, zo_csv 237 2 8), (8, zo_i 0 9), (9, zo_is 2 10), (10, zo_il 2 11), (11, zo_al 0 12), (12, zo_get 2 3 15), (15, zo_icge 59 18), (18, zo_al 1 19), (19, zo_al 0 20), (20, zo_getr 2 1 23), (23, zo_il 2 24), (24, zo_iald 25), (25, zo_cvi 5 62 1 28), (28, zo_ifeq 53 31), (31, zo_al 0 32), (32, zo_getr 2 4 35), (35, zo_al 0 36), (36, zo_getr 2 1 39), (39, zo_il 2 40), (40, zo_iald 41), (41, zo_al 0 42), (42, zo_al 1 43), (43, zo_al 0 44), (44, zo_getr 2 2 47), (47, zo_il 2 48), (48, zo_iald 49), (49, zo_cvi 2 27 2 52), (52, zo_iast 53), (53, zo_inc 2 1 56), (56, zo_goto 10), (59, zo_retv)]
def cu_X2_findSuited : List (Nat × List Bool) := [(10, [true, true, true])]
set_option maxRecDepth 100000 in
set_option maxHeartbeats 4000000 in
theorem ok_X2_findSuited : ∀ e ∈ tb_X2_findSuited, ZOK zmt cX2_findSuited RX2 0 e.1 e.2 :=
  zcons (zk_aload_n (pc := 0) (j := 0) rfl (by decide +kernel)) (
  zcons (zk_getr (pc := 1) (ci := 2) (j := 4) rfl zinX2 (by decide) zw_165 (by decide +kernel)) (
  zcons (zk_iconst (pc := 4) (z := 0) (by decide) (by decide +kernel)) (
  zcons (zk_csv (pc := 5) 237 rfl zw_627 zw_303 zds_J7_fill_53178 (by decide) zw_304 zw_10 (by decide +kernel)) (
  zcons (zk_iconst (pc := 8) (z := 0) (by decide) (by decide +kernel)) (
  zcons (zk_istore_n (pc := 9) (j := 2) rfl (by decide +kernel)) (
  zcons (zk_iload_n (pc := 10) (j := 2) rfl (by decide +kernel)) (
  zcons (zk_aload_n (pc := 11) (j := 0) rfl (by decide +kernel)) (
  zcons (zk_get (pc := 12) (ci := 2) (j := 3) rfl zinX2 (by decide) zw_164 (by decide +kernel)) (
  zcons (zk_icge (pc := 15) (off := 44) (by decide) (by decide +kernel)) (
  zcons (zk_aload_n (pc := 18) (j := 1) rfl (by decide +kernel)) (
  zcons (zk_aload_n (pc := 19) (j := 0) rfl (by decide +kernel)) (
  zcons (zk_getr (pc := 20) (ci := 2) (j := 1) rfl zinX2 (by decide) zw_162 (by decide +kernel)) (
  zcons (zk_iload_n (pc := 23) (j := 2) rfl (by decide +kernel)) (
  zcons (zk_iaload (pc := 24) (by decide +kernel)) (
  zcons (zk_cviN (pc := 25) 62 rfl (ci := 5) rfl zw_465 zw_467 zsel_X5_holds zds_X5_holds (by decide) zw_468 zw_3 (by decide +kernel)) (
  zcons (zk_ifeq (pc := 28) (off := 25) (by decide) (by decide +kernel)) (
  zcons (zk_aload_n (pc := 31) (j := 0) rfl (by decide +kernel)) (
  zcons (zk_getr (pc := 32) (ci := 2) (j := 4) rfl zinX2 (by decide) zw_165 (by decide +kernel)) (
  zcons (zk_aload_n (pc := 35) (j := 0) rfl (by decide +kernel)) (
  zcons (zk_getr (pc := 36) (ci := 2) (j := 1) rfl zinX2 (by decide) zw_162 (by decide +kernel)) (
  zcons (zk_iload_n (pc := 39) (j := 2) rfl (by decide +kernel)) (
  zcons (zk_iaload (pc := 40) (by decide +kernel)) (
  zcons (zk_aload_n (pc := 41) (j := 0) rfl (by decide +kernel)) (
  zcons (zk_aload_n (pc := 42) (j := 1) rfl (by decide +kernel)) (
  zcons (zk_aload_n (pc := 43) (j := 0) rfl (by decide +kernel)) (
  zcons (zk_getr (pc := 44) (ci := 2) (j := 2) rfl zinX2 (by decide) zw_163 (by decide +kernel)) (
  zcons (zk_iload_n (pc := 47) (j := 2) rfl (by decide +kernel)) (
  zcons (zk_iaload (pc := 48) (by decide +kernel)) (
  zcons (zk_cvi (pc := 49) 27 rfl (ci := 2) rfl zw_686 zw_688 zsel_X2_suitedBy zds_X2_suitedBy (by decide) zw_689 zw_5 (by decide +kernel)) (
  zcons (zk_iastore (pc := 52) (by decide +kernel)) (
  zcons (zk_iinc (pc := 53) (z := 1) (by decide) (by decide +kernel)) (
  zcons (zk_goto (pc := 56) (off := (-46)) (by decide) (by decide +kernel)) (
  zcons (zk_retv (pc := 59) rfl (by decide +kernel)) (znil))))))))))))))))))))))))))))))))))
def tb_X2_suitedBy : List (Nat × ZP) := [(0, zo_i 0 1), (1, zo_is 3 2), (2, zo_i 0 3), (3, zo_is 4 5), (5, zo_il 4 7), (7, zo_al 1 8), (8, zo_get 5 2 11), (11, zo_icge 50 14), (14, zo_il 3 15), (15, zo_al 1 16), (16, zo_il 4 18), (18, zo_cvi 5 63 1 21), (21, zo_ifne 41 24), (24, zo_al 1 25), (25, zo_il 4 27), (27, zo_il 2 28), (28, zo_cvi 5 64 2 31), (31, zo_ifeq 41 34), (34, zo_i 1 35), (35, zo_il 4 37), (37, zo_bin zshl 38), (38, zo_goto 42), (41, zo_i 0 42), (42, zo_bin (· ||| ·) 43), (43, zo_is 3 44), (44, zo_inc 4 1 47), (47, zo_goto 5), (50, zo_il 3 51), (51, zo_reti)]
def cu_X2_suitedBy : List (Nat × List Bool) := [(5, [false, true, true, true, true])]
set_option maxRecDepth 100000 in
set_option maxHeartbeats 4000000 in
theorem ok_X2_suitedBy : ∀ e ∈ tb_X2_suitedBy, ZOK zmt cX2_suitedBy RX2 1 e.1 e.2 :=
  zcons (zk_iconst (pc := 0) (z := 0) (by decide) (by decide +kernel)) (
  zcons (zk_istore_n (pc := 1) (j := 3) rfl (by decide +kernel)) (
  zcons (zk_iconst (pc := 2) (z := 0) (by decide) (by decide +kernel)) (
  zcons (zk_istore (pc := 3) (by decide +kernel)) (
  zcons (zk_iload (pc := 5) (by decide +kernel)) (
  zcons (zk_aload_n (pc := 7) (j := 1) rfl (by decide +kernel)) (
  zcons (zk_getN (pc := 8) (ci := 5) (j := 2) rfl zinX5 (by decide) zw_69 (by decide +kernel)) (
  zcons (zk_icge (pc := 11) (off := 39) (by decide) (by decide +kernel)) (
  zcons (zk_iload_n (pc := 14) (j := 3) rfl (by decide +kernel)) (
  zcons (zk_aload_n (pc := 15) (j := 1) rfl (by decide +kernel)) (
  zcons (zk_iload (pc := 16) (by decide +kernel)) (
  zcons (zk_cviN (pc := 18) 63 rfl (ci := 5) rfl zw_690 zw_471 zsel_X5_isServed zds_X5_isServed (by decide) zw_472 zw_3 (by decide +kernel)) (
  zcons (zk_ifne (pc := 21) (off := 20) (by decide) (by decide +kernel)) (
  zcons (zk_aload_n (pc := 24) (j := 1) rfl (by decide +kernel)) (
  zcons (zk_iload (pc := 25) (by decide +kernel)) (
  zcons (zk_iload_n (pc := 27) (j := 2) rfl (by decide +kernel)) (
  zcons (zk_cviN (pc := 28) 64 rfl (ci := 5) rfl zw_652 zw_484 zsel_X5_suits zds_X5_suits (by decide) zw_485 zw_3 (by decide +kernel)) (
  zcons (zk_ifeq (pc := 31) (off := 10) (by decide) (by decide +kernel)) (
  zcons (zk_iconst (pc := 34) (z := 1) (by decide) (by decide +kernel)) (
  zcons (zk_iload (pc := 35) (by decide +kernel)) (
  zcons (zk_ishl (pc := 37) (by decide +kernel)) (
  zcons (zk_goto (pc := 38) (off := 4) (by decide) (by decide +kernel)) (
  zcons (zk_iconst (pc := 41) (z := 0) (by decide) (by decide +kernel)) (
  zcons (zk_ior (pc := 42) (by decide +kernel)) (
  zcons (zk_istore_n (pc := 43) (j := 3) rfl (by decide +kernel)) (
  zcons (zk_iinc (pc := 44) (z := 1) (by decide) (by decide +kernel)) (
  zcons (zk_goto (pc := 47) (off := (-42)) (by decide) (by decide +kernel)) (
  zcons (zk_iload_n (pc := 50) (j := 3) rfl (by decide +kernel)) (
  zcons (zk_reti (pc := 51) rfl (by decide +kernel)) (znil)))))))))))))))))))))))))))))
def tb_X2_findServable : List (Nat × ZP) := [(0, zo_al 0 1), (1, zo_getr 2 5 4), (4, zo_i 0 5), (5, zo_i 1 6), (6, zo_iast 7), (7, zo_i 1 8), (8, zo_is 2 9), (9, zo_il 2 10), (10, zo_al 1 11), (11, zo_get 5 5 14), (14, zo_icgt 49 17), (17, zo_il 2 18), (18, zo_i 1024 21), (21, zo_icge 49 24), (24, zo_al 1 25), (25, zo_il 2 26), (26, zo_cvi 5 62 1 29), (29, zo_ifeq 43 32), (32, zo_al 0 33), (33, zo_getr 2 5 36), (36, zo_il 2 37), (37, zo_al 0 38), (38, zo_il 2 39), (39, zo_cvi 2 29 1 42), (42, zo_iast 43), (43, zo_inc 2 1 46), (46, zo_goto 9), (49, zo_retv)]
def cu_X2_findServable : List (Nat × List Bool) := [(9, [true, true, true])]
set_option maxRecDepth 100000 in
set_option maxHeartbeats 4000000 in
theorem ok_X2_findServable : ∀ e ∈ tb_X2_findServable, ZOK zmt cX2_findServable RX2 0 e.1 e.2 :=
  zcons (zk_aload_n (pc := 0) (j := 0) rfl (by decide +kernel)) (
  zcons (zk_getr (pc := 1) (ci := 2) (j := 5) rfl zinX2 (by decide) zw_166 (by decide +kernel)) (
  zcons (zk_iconst (pc := 4) (z := 0) (by decide) (by decide +kernel)) (
  zcons (zk_iconst (pc := 5) (z := 1) (by decide) (by decide +kernel)) (
  zcons (zk_iastore (pc := 6) (by decide +kernel)) (
  zcons (zk_iconst (pc := 7) (z := 1) (by decide) (by decide +kernel)) (
  zcons (zk_istore_n (pc := 8) (j := 2) rfl (by decide +kernel)) (
  zcons (zk_iload_n (pc := 9) (j := 2) rfl (by decide +kernel)) (
  zcons (zk_aload_n (pc := 10) (j := 1) rfl (by decide +kernel)) (
  zcons (zk_getN (pc := 11) (ci := 5) (j := 5) rfl zinX5 (by decide) zw_81 (by decide +kernel)) (
  zcons (zk_icgt (pc := 14) (off := 35) (by decide) (by decide +kernel)) (
  zcons (zk_iload_n (pc := 17) (j := 2) rfl (by decide +kernel)) (
  zcons (zk_sipush (pc := 18) (z := 1024) (by decide) (by decide +kernel)) (
  zcons (zk_icge (pc := 21) (off := 28) (by decide) (by decide +kernel)) (
  zcons (zk_aload_n (pc := 24) (j := 1) rfl (by decide +kernel)) (
  zcons (zk_iload_n (pc := 25) (j := 2) rfl (by decide +kernel)) (
  zcons (zk_cviN (pc := 26) 62 rfl (ci := 5) rfl zw_465 zw_467 zsel_X5_holds zds_X5_holds (by decide) zw_468 zw_3 (by decide +kernel)) (
  zcons (zk_ifeq (pc := 29) (off := 14) (by decide) (by decide +kernel)) (
  zcons (zk_aload_n (pc := 32) (j := 0) rfl (by decide +kernel)) (
  zcons (zk_getr (pc := 33) (ci := 2) (j := 5) rfl zinX2 (by decide) zw_166 (by decide +kernel)) (
  zcons (zk_iload_n (pc := 36) (j := 2) rfl (by decide +kernel)) (
  zcons (zk_aload_n (pc := 37) (j := 0) rfl (by decide +kernel)) (
  zcons (zk_iload_n (pc := 38) (j := 2) rfl (by decide +kernel)) (
  zcons (zk_cvi (pc := 39) 29 rfl (ci := 2) rfl zw_695 zw_697 zsel_X2_servableBy zds_X2_servableBy (by decide) zw_698 zw_5 (by decide +kernel)) (
  zcons (zk_iastore (pc := 42) (by decide +kernel)) (
  zcons (zk_iinc (pc := 43) (z := 1) (by decide) (by decide +kernel)) (
  zcons (zk_goto (pc := 46) (off := (-37)) (by decide) (by decide +kernel)) (
  zcons (zk_retv (pc := 49) rfl (by decide +kernel)) (znil))))))))))))))))))))))))))))
def tb_X2_servableBy : List (Nat × ZP) := [(0, zo_il 1 1), (1, zo_csi 231 1 4), (4, zo_is 2 5), (5, zo_il 1 6), (6, zo_il 2 7), (7, zo_bin (· ^^^ ·) 8), (8, zo_is 3 9), (9, zo_al 0 10), (10, zo_getr 2 5 13), (13, zo_il 3 14), (14, zo_iald 15), (15, zo_is 4 17), (17, zo_il 3 18), (18, zo_is 5 20), (20, zo_il 5 22), (22, zo_iflt 77 25), (25, zo_il 5 27), (27, zo_il 3 28), (28, zo_bin (· &&& ·) 29), (29, zo_is 5 31), (31, zo_il 2 32), (32, zo_il 5 34), (34, zo_bin (· ||| ·) 35), (35, zo_is 6 37), (37, zo_al 0 38), (38, zo_getr 2 4 41), (41, zo_il 6 43), (43, zo_iald 44), (44, zo_ifeq 71 47), (47, zo_il 4 49), (49, zo_al 0 50), (50, zo_getr 2 5 53), (53, zo_il 1 54), (54, zo_il 6 56), (56, zo_bin (· ^^^ ·) 57), (57, zo_iald 58), (58, zo_al 0 59), (59, zo_getr 2 4 62), (62, zo_il 6 64), (64, zo_iald 65), (65, zo_csi 30 2 68), (68, zo_bin (· ||| ·) 69), (69, zo_is 4 71), (71, zo_inc 5 (-1) 74), (74, zo_goto 20), (77, zo_il 4 79), (79, zo_reti)]
def cu_X2_servableBy : List (Nat × List Bool) := [(20, [true, true, true, true, true, true, false])]
set_option maxRecDepth 100000 in
set_option maxHeartbeats 4000000 in
theorem ok_X2_servableBy : ∀ e ∈ tb_X2_servableBy, ZOK zmt cX2_servableBy RX2 1 e.1 e.2 :=
  zcons (zk_iload_n (pc := 0) (j := 1) rfl (by decide +kernel)) (
  zcons (zk_csi (pc := 1) 231 rfl zw_699 zw_569 zds_J6_lowestOneBit_0f7a4 (by decide) zw_570 zw_13 (by decide +kernel)) (
  zcons (zk_istore_n (pc := 4) (j := 2) rfl (by decide +kernel)) (
  zcons (zk_iload_n (pc := 5) (j := 1) rfl (by decide +kernel)) (
  zcons (zk_iload_n (pc := 6) (j := 2) rfl (by decide +kernel)) (
  zcons (zk_ixor (pc := 7) (by decide +kernel)) (
  zcons (zk_istore_n (pc := 8) (j := 3) rfl (by decide +kernel)) (
  zcons (zk_aload_n (pc := 9) (j := 0) rfl (by decide +kernel)) (
  zcons (zk_getr (pc := 10) (ci := 2) (j := 5) rfl zinX2 (by decide) zw_166 (by decide +kernel)) (
  zcons (zk_iload_n (pc := 13) (j := 3) rfl (by decide +kernel)) (
  zcons (zk_iaload (pc := 14) (by decide +kernel)) (
  zcons (zk_istore (pc := 15) (by decide +kernel)) (
  zcons (zk_iload_n (pc := 17) (j := 3) rfl (by decide +kernel)) (
  zcons (zk_istore (pc := 18) (by decide +kernel)) (
  zcons (zk_iload (pc := 20) (by decide +kernel)) (
  zcons (zk_iflt (pc := 22) (off := 55) (by decide) (by decide +kernel)) (
  zcons (zk_iload (pc := 25) (by decide +kernel)) (
  zcons (zk_iload_n (pc := 27) (j := 3) rfl (by decide +kernel)) (
  zcons (zk_iand (pc := 28) (by decide +kernel)) (
  zcons (zk_istore (pc := 29) (by decide +kernel)) (
  zcons (zk_iload_n (pc := 31) (j := 2) rfl (by decide +kernel)) (
  zcons (zk_iload (pc := 32) (by decide +kernel)) (
  zcons (zk_ior (pc := 34) (by decide +kernel)) (
  zcons (zk_istore (pc := 35) (by decide +kernel)) (
  zcons (zk_aload_n (pc := 37) (j := 0) rfl (by decide +kernel)) (
  zcons (zk_getr (pc := 38) (ci := 2) (j := 4) rfl zinX2 (by decide) zw_165 (by decide +kernel)) (
  zcons (zk_iload (pc := 41) (by decide +kernel)) (
  zcons (zk_iaload (pc := 43) (by decide +kernel)) (
  zcons (zk_ifeq (pc := 44) (off := 27) (by decide) (by decide +kernel)) (
  zcons (zk_iload (pc := 47) (by decide +kernel)) (
  zcons (zk_aload_n (pc := 49) (j := 0) rfl (by decide +kernel)) (
  zcons (zk_getr (pc := 50) (ci := 2) (j := 5) rfl zinX2 (by decide) zw_166 (by decide +kernel)) (
  zcons (zk_iload_n (pc := 53) (j := 1) rfl (by decide +kernel)) (
  zcons (zk_iload (pc := 54) (by decide +kernel)) (
  zcons (zk_ixor (pc := 56) (by decide +kernel)) (
  zcons (zk_iaload (pc := 57) (by decide +kernel)) (
  zcons (zk_aload_n (pc := 58) (j := 0) rfl (by decide +kernel)) (
  zcons (zk_getr (pc := 59) (ci := 2) (j := 4) rfl zinX2 (by decide) zw_165 (by decide +kernel)) (
  zcons (zk_iload (pc := 62) (by decide +kernel)) (
  zcons (zk_iaload (pc := 64) (by decide +kernel)) (
  zcons (zk_csi (pc := 65) 30 rfl zw_700 zw_701 zds_X2_withOneMore (by decide) zw_702 zw_5 (by decide +kernel)) (
  zcons (zk_ior (pc := 68) (by decide +kernel)) (
  zcons (zk_istore (pc := 69) (by decide +kernel)) (
  zcons (zk_iinc (pc := 71) (z := (-1)) (by decide) (by decide +kernel)) (
  zcons (zk_goto (pc := 74) (off := (-54)) (by decide) (by decide +kernel)) (
  zcons (zk_iload (pc := 77) (by decide +kernel)) (
  zcons (zk_reti (pc := 79) rfl (by decide +kernel)) (znil)))))))))))))))))))))))))))))))))))))))))))))))
def tb_X2_withOneMore : List (Nat × ZP) := [(0, zo_i 0 1), (1, zo_is 2 2), (2, zo_i 0 3), (3, zo_is 3 4), (4, zo_il 3 5), (5, zo_i 5 6), (6, zo_icge 37 9), (9, zo_il 1 10), (10, zo_il 3 11), (11, zo_bin zshr 12), (12, zo_i 1 13), (13, zo_bin (· &&& ·) 14), (14, zo_ifeq 31 17), (17, zo_il 2 18), (18, zo_il 0 19), (19, zo_gst 1001 22), (22, zo_il 3 23), (23, zo_sald 1001 zWITHOUT 24), (24, zo_bin (· &&& ·) 25), (25, zo_i 1 26), (26, zo_il 3 27), (27, zo_bin zshl 28), (28, zo_bin zshl 29), (29, zo_bin (· ||| ·) 30), (30, zo_is 2 31), (31, zo_inc 3 1 34), (34, zo_goto 4), (37, zo_il 2 38), (38, zo_reti)]
def cu_X2_withOneMore : List (Nat × List Bool) := [(4, [true, true, true, true])]
set_option maxRecDepth 100000 in
set_option maxHeartbeats 4000000 in
theorem ok_X2_withOneMore : ∀ e ∈ tb_X2_withOneMore, ZOK zmt cX2_withOneMore RX2 1 e.1 e.2 :=
  zcons (zk_iconst (pc := 0) (z := 0) (by decide) (by decide +kernel)) (
  zcons (zk_istore_n (pc := 1) (j := 2) rfl (by decide +kernel)) (
  zcons (zk_iconst (pc := 2) (z := 0) (by decide) (by decide +kernel)) (
  zcons (zk_istore_n (pc := 3) (j := 3) rfl (by decide +kernel)) (
  zcons (zk_iload_n (pc := 4) (j := 3) rfl (by decide +kernel)) (
  zcons (zk_iconst (pc := 5) (z := 5) (by decide) (by decide +kernel)) (
  zcons (zk_icge (pc := 6) (off := 31) (by decide) (by decide +kernel)) (
  zcons (zk_iload_n (pc := 9) (j := 1) rfl (by decide +kernel)) (
  zcons (zk_iload_n (pc := 10) (j := 3) rfl (by decide +kernel)) (
  zcons (zk_ishr (pc := 11) (by decide +kernel)) (
  zcons (zk_iconst (pc := 12) (z := 1) (by decide) (by decide +kernel)) (
  zcons (zk_iand (pc := 13) (by decide +kernel)) (
  zcons (zk_ifeq (pc := 14) (off := 17) (by decide) (by decide +kernel)) (
  zcons (zk_iload_n (pc := 17) (j := 2) rfl (by decide +kernel)) (
  zcons (zk_iload_n (pc := 18) (j := 0) rfl (by decide +kernel)) (
  zcons (zk_getstatic (pc := 19) (id := 1001) (C := "StampSheets$Finder") (nm := "WITHOUT") (xs := zWITHOUT) (fun h => h.1) zw_703 (by decide +kernel)) (
  zcons (zk_iload_n (pc := 22) (j := 3) rfl (by decide +kernel)) (
  zcons (zk_sald (pc := 23) (id := 1001) (C := "StampSheets$Finder") (nm := "WITHOUT") (xs := zWITHOUT) (fun h => h.1) (by decide +kernel)) (
  zcons (zk_iand (pc := 24) (by decide +kernel)) (
  zcons (zk_iconst (pc := 25) (z := 1) (by decide) (by decide +kernel)) (
  zcons (zk_iload_n (pc := 26) (j := 3) rfl (by decide +kernel)) (
  zcons (zk_ishl (pc := 27) (by decide +kernel)) (
  zcons (zk_ishl (pc := 28) (by decide +kernel)) (
  zcons (zk_ior (pc := 29) (by decide +kernel)) (
  zcons (zk_istore_n (pc := 30) (j := 2) rfl (by decide +kernel)) (
  zcons (zk_iinc (pc := 31) (z := 1) (by decide) (by decide +kernel)) (
  zcons (zk_goto (pc := 34) (off := (-30)) (by decide) (by decide +kernel)) (
  zcons (zk_iload_n (pc := 37) (j := 2) rfl (by decide +kernel)) (
  zcons (zk_reti (pc := 38) rfl (by decide +kernel)) (znil)))))))))))))))))))))))))))))
def tb_X2_canServe : List (Nat × ZP) := [(0, zo_al 0 1), (1, zo_getr 2 5 4), (4, zo_il 1 5), (5, zo_iald 6), (6, zo_il 2 7), (7, zo_bin zushr 8), (8, zo_i 1 9), (9, zo_bin (· &&& ·) 10), (10, zo_ifeq 17 13), (13, zo_i 1 14), (14, zo_goto 18), (17, zo_i 0 18), (18, zo_retz)]
def cu_X2_canServe : List (Nat × List Bool) := []
set_option maxRecDepth 100000 in
set_option maxHeartbeats 4000000 in
theorem ok_X2_canServe : ∀ e ∈ tb_X2_canServe, ZOK zmt cX2_canServe RX2 3 e.1 e.2 :=
  zcons (zk_aload_n (pc := 0) (j := 0) rfl (by decide +kernel)) (
  zcons (zk_getr (pc := 1) (ci := 2) (j := 5) rfl zinX2 (by decide) zw_166 (by decide +kernel)) (
  zcons (zk_iload_n (pc := 4) (j := 1) rfl (by decide +kernel)) (
  zcons (zk_iaload (pc := 5) (by decide +kernel)) (
  zcons (zk_iload_n (pc := 6) (j := 2) rfl (by decide +kernel)) (
  zcons (zk_iushr (pc := 7) (by decide +kernel)) (
  zcons (zk_iconst (pc := 8) (z := 1) (by decide) (by decide +kernel)) (
  zcons (zk_iand (pc := 9) (by decide +kernel)) (
  zcons (zk_ifeq (pc := 10) (off := 7) (by decide) (by decide +kernel)) (
  zcons (zk_iconst (pc := 13) (z := 1) (by decide) (by decide +kernel)) (
  zcons (zk_goto (pc := 14) (off := 4) (by decide) (by decide +kernel)) (
  zcons (zk_iconst (pc := 17) (z := 0) (by decide) (by decide +kernel)) (
  zcons (zk_retz (pc := 18) rfl (by decide +kernel)) (znil)))))))))))))
def tb_X2_pieceAmongServed : List (Nat × ZP) := [(0, zo_al 1 1), (1, zo_get 5 5 4), (4, zo_is 4 6), (6, zo_il 2 7), (7, zo_is 5 9), (9, zo_i 0 10), (10, zo_is 6 12), (12, zo_il 6 14), (14, zo_il 3 15), (15, zo_icgt 76 18), (18, zo_il 6 20), (20, zo_i 5 21), (21, zo_icge 76 24), (24, zo_il 2 25), (25, zo_il 6 27), (27, zo_bin zshr 28), (28, zo_i 1 29), (29, zo_bin (· &&& ·) 30), (30, zo_ifeq 70 33), (33, zo_il 5 35), (35, zo_i 1 36), (36, zo_il 6 38), (38, zo_bin zshl 39), (39, zo_bin (· ^^^ ·) 40), (40, zo_is 5 42), (42, zo_al 0 43), (43, zo_il 4 45), (45, zo_il 6 47), (47, zo_il 5 49), (49, zo_cvi 2 33 3 52), (52, zo_is 7 54), (54, zo_il 6 56), (56, zo_il 3 57), (57, zo_icne 63 60), (60, zo_il 7 62), (62, zo_reti), (63, zo_il 4 65), (65, zo_il 7 67), (67, zo_bin (· ^^^ ·) 68), (68, zo_is 4 70), (70, zo_inc 6 1 73), (73, zo_goto 12), (76, zo_i 0 77), (77, zo_reti)]
def cu_X2_pieceAmongServed : List (Nat × List Bool) := [(12, [true, false, true, true, true, true, true, false])]
set_option maxRecDepth 100000 in
set_option maxHeartbeats 4000000 in
theorem ok_X2_pieceAmongServed : ∀ e ∈ tb_X2_pieceAmongServed, ZOK zmt cX2_pieceAmongServed RX2 1 e.1 e.2 :=
  zcons (zk_aload_n (pc := 0) (j := 1) rfl (by decide +kernel)) (
  zcons (zk_getN (pc := 1) (ci := 5) (j := 5) rfl zinX5 (by decide) zw_81 (by decide +kernel)) (
  zcons (zk_istore (pc := 4) (by decide +kernel)) (
  zcons (zk_iload_n (pc := 6) (j := 2) rfl (by decide +kernel)) (
  zcons (zk_istore (pc := 7) (by decide +kernel)) (
  zcons (zk_iconst (pc := 9) (z := 0) (by decide) (by decide +kernel)) (
  zcons (zk_istore (pc := 10) (by decide +kernel)) (
  zcons (zk_iload (pc := 12) (by decide +kernel)) (
  zcons (zk_iload_n (pc := 14) (j := 3) rfl (by decide +kernel)) (
  zcons (zk_icgt (pc := 15) (off := 61) (by decide) (by decide +kernel)) (
  zcons (zk_iload (pc := 18) (by decide +kernel)) (
  zcons (zk_iconst (pc := 20) (z := 5) (by decide) (by decide +kernel)) (
  zcons (zk_icge (pc := 21) (off := 55) (by decide) (by decide +kernel)) (
  zcons (zk_iload_n (pc := 24) (j := 2) rfl (by decide +kernel)) (
  zcons (zk_iload (pc := 25) (by decide +kernel)) (
  zcons (zk_ishr (pc := 27) (by decide +kernel)) (
  zcons (zk_iconst (pc := 28) (z := 1) (by decide) (by decide +kernel)) (
  zcons (zk_iand (pc := 29) (by decide +kernel)) (
  zcons (zk_ifeq (pc := 30) (off := 40) (by decide) (by decide +kernel)) (
  zcons (zk_iload (pc := 33) (by decide +kernel)) (
  zcons (zk_iconst (pc := 35) (z := 1) (by decide) (by decide +kernel)) (
  zcons (zk_iload (pc := 36) (by decide +kernel)) (
  zcons (zk_ishl (pc := 38) (by decide +kernel)) (
  zcons (zk_ixor (pc := 39) (by decide +kernel)) (
  zcons (zk_istore (pc := 40) (by decide +kernel)) (
  zcons (zk_aload_n (pc := 42) (j := 0) rfl (by decide +kernel)) (
  zcons (zk_iload (pc := 43) (by decide +kernel)) (
  zcons (zk_iload (pc := 45) (by decide +kernel)) (
  zcons (zk_iload (pc := 47) (by decide +kernel)) (
  zcons (zk_cvi (pc := 49) 33 rfl (ci := 2) rfl zw_713 zw_715 zsel_X2_firstPieceLeaving zds_X2_firstPieceLeaving (by decide) zw_716 zw_5 (by decide +kernel)) (
  zcons (zk_istore (pc := 52) (by decide +kernel)) (
  zcons (zk_iload (pc := 54) (by decide +kernel)) (
  zcons (zk_iload_n (pc := 56) (j := 3) rfl (by decide +kernel)) (
  zcons (zk_icne (pc := 57) (off := 6) (by decide) (by decide +kernel)) (
  zcons (zk_iload (pc := 60) (by decide +kernel)) (
  zcons (zk_reti (pc := 62) rfl (by decide +kernel)) (
  zcons (zk_iload (pc := 63) (by decide +kernel)) (
  zcons (zk_iload (pc := 65) (by decide +kernel)) (
  zcons (zk_ixor (pc := 67) (by decide +kernel)) (
  zcons (zk_istore (pc := 68) (by decide +kernel)) (
  zcons (zk_iinc (pc := 70) (z := 1) (by decide) (by decide +kernel)) (
  zcons (zk_goto (pc := 73) (off := (-61)) (by decide) (by decide +kernel)) (
  zcons (zk_iconst (pc := 76) (z := 0) (by decide) (by decide +kernel)) (
  zcons (zk_reti (pc := 77) rfl (by decide +kernel)) (znil))))))))))))))))))))))))))))))))))))))))))))
def tb_X2_firstPieceLeaving : List (Nat × ZP) := [(0, zo_i 1 1), (1, zo_is 4 3), (3, zo_il 4 5), (5, zo_il 1 6), (6, zo_icgt 65 9), (9, zo_il 4 11), (11, zo_il 1 12), (12, zo_i (-1) 13), (13, zo_bin (· ^^^ ·) 14), (14, zo_bin (· &&& ·) 15), (15, zo_ifne 36 18), (18, zo_al 0 19), (19, zo_getr 2 4 22), (22, zo_il 4 24), (24, zo_iald 25), (25, zo_il 2 26), (26, zo_bin zshr 27), (27, zo_i 1 28), (28, zo_bin (· &&& ·) 29), (29, zo_ifeq 36 32), (32, zo_i 1 33), (33, zo_goto 37), (36, zo_i 0 37), (37, zo_is 5 39), (39, zo_il 5 41), (41, zo_ifeq 59 44), (44, zo_al 0 45), (45, zo_il 1 46), (46, zo_il 4 48), (48, zo_bin (· ^^^ ·) 49), (49, zo_il 3 50), (50, zo_cvi 2 31 2 53), (53, zo_ifeq 59 56), (56, zo_il 4 58), (58, zo_reti), (59, zo_inc 4 1 62), (62, zo_goto 3), (65, zo_i 0 66), (66, zo_reti)]
def cu_X2_firstPieceLeaving : List (Nat × List Bool) := [(3, [true, true, true, true, true, false])]
set_option maxRecDepth 100000 in
set_option maxHeartbeats 4000000 in
theorem ok_X2_firstPieceLeaving : ∀ e ∈ tb_X2_firstPieceLeaving, ZOK zmt cX2_firstPieceLeaving RX2 1 e.1 e.2 :=
  zcons (zk_iconst (pc := 0) (z := 1) (by decide) (by decide +kernel)) (
  zcons (zk_istore (pc := 1) (by decide +kernel)) (
  zcons (zk_iload (pc := 3) (by decide +kernel)) (
  zcons (zk_iload_n (pc := 5) (j := 1) rfl (by decide +kernel)) (
  zcons (zk_icgt (pc := 6) (off := 59) (by decide) (by decide +kernel)) (
  zcons (zk_iload (pc := 9) (by decide +kernel)) (
  zcons (zk_iload_n (pc := 11) (j := 1) rfl (by decide +kernel)) (
  zcons (zk_iconst (pc := 12) (z := (-1)) (by decide) (by decide +kernel)) (
  zcons (zk_ixor (pc := 13) (by decide +kernel)) (
  zcons (zk_iand (pc := 14) (by decide +kernel)) (
  zcons (zk_ifne (pc := 15) (off := 21) (by decide) (by decide +kernel)) (
  zcons (zk_aload_n (pc := 18) (j := 0) rfl (by decide +kernel)) (
  zcons (zk_getr (pc := 19) (ci := 2) (j := 4) rfl zinX2 (by decide) zw_165 (by decide +kernel)) (
  zcons (zk_iload (pc := 22) (by decide +kernel)) (
  zcons (zk_iaload (pc := 24) (by decide +kernel)) (
  zcons (zk_iload_n (pc := 25) (j := 2) rfl (by decide +kernel)) (
  zcons (zk_ishr (pc := 26) (by decide +kernel)) (
  zcons (zk_iconst (pc := 27) (z := 1) (by decide) (by decide +kernel)) (
  zcons (zk_iand (pc := 28) (by decide +kernel)) (
  zcons (zk_ifeq (pc := 29) (off := 7) (by decide) (by decide +kernel)) (
  zcons (zk_iconst (pc := 32) (z := 1) (by decide) (by decide +kernel)) (
  zcons (zk_goto (pc := 33) (off := 4) (by decide) (by decide +kernel)) (
  zcons (zk_iconst (pc := 36) (z := 0) (by decide) (by decide +kernel)) (
  zcons (zk_istore (pc := 37) (by decide +kernel)) (
  zcons (zk_iload (pc := 39) (by decide +kernel)) (
  zcons (zk_ifeq (pc := 41) (off := 18) (by decide) (by decide +kernel)) (
  zcons (zk_aload_n (pc := 44) (j := 0) rfl (by decide +kernel)) (
  zcons (zk_iload_n (pc := 45) (j := 1) rfl (by decide +kernel)) (
  zcons (zk_iload (pc := 46) (by decide +kernel)) (
  zcons (zk_ixor (pc := 48) (by decide +kernel)) (
  zcons (zk_iload_n (pc := 49) (j := 3) rfl (by decide +kernel)) (
  zcons (zk_cvi (pc := 50) 31 rfl (ci := 2) rfl zw_705 zw_707 zsel_X2_canServe zds_X2_canServe (by decide) zw_708 zw_5 (by decide +kernel)) (
  zcons (zk_ifeq (pc := 53) (off := 6) (by decide) (by decide +kernel)) (
  zcons (zk_iload (pc := 56) (by decide +kernel)) (
  zcons (zk_reti (pc := 58) rfl (by decide +kernel)) (
  zcons (zk_iinc (pc := 59) (z := 1) (by decide) (by decide +kernel)) (
  zcons (zk_goto (pc := 62) (off := (-59)) (by decide) (by decide +kernel)) (
  zcons (zk_iconst (pc := 65) (z := 0) (by decide) (by decide +kernel)) (
  zcons (zk_reti (pc := 66) rfl (by decide +kernel)) (znil)))))))))))))))))))))))))))))))))))))))
def tb_X2_countCouplings : List (Nat × ZP) := [(0, zo_al 0 1), (1, zo_getr 2 5 4), (4, zo_i 0 5), (5, zo_i 1 6), (6, zo_iast 7), (7, zo_i 1 8), (8, zo_is 2 9), (9, zo_il 2 10), (10, zo_al 1 11), (11, zo_get 5 5 14), (14, zo_icgt 102 17), (17, zo_il 2 18), (18, zo_i 1024 21), (21, zo_icge 102 24), (24, zo_il 2 25), (25, zo_csi 232 1 28), (28, zo_is 3 29), (29, zo_i 0 30), (30, zo_is 4 32), (32, zo_il 3 33), (33, zo_i 1 34), (34, zo_bin (· + ·) 35), (35, zo_is 5 37), (37, zo_il 5 39), (39, zo_al 1 40), (40, zo_get 5 1 43), (43, zo_icge 88 46), (46, zo_al 1 47), (47, zo_getr 5 8 50), (50, zo_il 3 51), (51, zo_iald 52), (52, zo_il 2 53), (53, zo_bin (· &&& ·) 54), (54, zo_i 1 55), (55, zo_il 5 57), (57, zo_bin zshl 58), (58, zo_bin (· &&& ·) 59), (59, zo_ifeq 82 62), (62, zo_il 4 64), (64, zo_al 0 65), (65, zo_getr 2 5 68), (68, zo_il 2 69), (69, zo_i 1 70), (70, zo_il 3 71), (71, zo_bin zshl 72), (72, zo_bin (· ^^^ ·) 73), (73, zo_i 1 74), (74, zo_il 5 76), (76, zo_bin zshl 77), (77, zo_bin (· ^^^ ·) 78), (78, zo_iald 79), (79, zo_bin (· + ·) 80), (80, zo_is 4 82), (82, zo_inc 5 1 85), (85, zo_goto 37), (88, zo_al 0 89), (89, zo_getr 2 5 92), (92, zo_il 2 93), (93, zo_il 4 95), (95, zo_iast 96), (96, zo_inc 2 1 99), (99, zo_goto 9), (102, zo_al 0 103), (103, zo_getr 2 5 106), (106, zo_al 1 107), (107, zo_get 5 5 110), (110, zo_iald 111), (111, zo_reti)]
def cu_X2_countCouplings : List (Nat × List Bool) := [(9, [true, true, true, false, false, false]), (37, [true, true, true, true, true, true])]
set_option maxRecDepth 100000 in
set_option maxHeartbeats 4000000 in
theorem ok_X2_countCouplings : ∀ e ∈ tb_X2_countCouplings, ZOK zmt cX2_countCouplings RX2 1 e.1 e.2 :=
  zcons (zk_aload_n (pc := 0) (j := 0) rfl (by decide +kernel)) (
  zcons (zk_getr (pc := 1) (ci := 2) (j := 5) rfl zinX2 (by decide) zw_166 (by decide +kernel)) (
  zcons (zk_iconst (pc := 4) (z := 0) (by decide) (by decide +kernel)) (
  zcons (zk_iconst (pc := 5) (z := 1) (by decide) (by decide +kernel)) (
  zcons (zk_iastore (pc := 6) (by decide +kernel)) (
  zcons (zk_iconst (pc := 7) (z := 1) (by decide) (by decide +kernel)) (
  zcons (zk_istore_n (pc := 8) (j := 2) rfl (by decide +kernel)) (
  zcons (zk_iload_n (pc := 9) (j := 2) rfl (by decide +kernel)) (
  zcons (zk_aload_n (pc := 10) (j := 1) rfl (by decide +kernel)) (
  zcons (zk_getN (pc := 11) (ci := 5) (j := 5) rfl zinX5 (by decide) zw_81 (by decide +kernel)) (
  zcons (zk_icgt (pc := 14) (off := 88) (by decide) (by decide +kernel)) (
  zcons (zk_iload_n (pc := 17) (j := 2) rfl (by decide +kernel)) (
  zcons (zk_sipush (pc := 18) (z := 1024) (by decide) (by decide +kernel)) (
  zcons (zk_icge (pc := 21) (off := 81) (by decide) (by decide +kernel)) (
  zcons (zk_iload_n (pc := 24) (j := 2) rfl (by decide +kernel)) (
  zcons (zk_csi (pc := 25) 232 rfl zw_603 zw_604 zds_J6_numberOfTrailingZeros_0f7a4 (by decide) zw_605 zw_13 (by decide +kernel)) (
  zcons (zk_istore_n (pc := 28) (j := 3) rfl (by decide +kernel)) (
  zcons (zk_iconst (pc := 29) (z := 0) (by decide) (by decide +kernel)) (
  zcons (zk_istore (pc := 30) (by decide +kernel)) (
  zcons (zk_iload_n (pc := 32) (j := 3) rfl (by decide +kernel)) (
  zcons (zk_iconst (pc := 33) (z := 1) (by decide) (by decide +kernel)) (
  zcons (zk_iadd (pc := 34) (by decide +kernel)) (
  zcons (zk_istore (pc := 35) (by decide +kernel)) (
  zcons (zk_iload (pc := 37) (by decide +kernel)) (
  zcons (zk_aload_n (pc := 39) (j := 1) rfl (by decide +kernel)) (
  zcons (zk_getN (pc := 40) (ci := 5) (j := 1) rfl zinX5 (by decide) zw_65 (by decide +kernel)) (
  zcons (zk_icge (pc := 43) (off := 45) (by decide) (by decide +kernel)) (
  zcons (zk_aload_n (pc := 46) (j := 1) rfl (by decide +kernel)) (
  zcons (zk_getrN (pc := 47) (ci := 5) (j := 8) rfl zinX5 (by decide) zw_87 (by decide +kernel)) (
  zcons (zk_iload_n (pc := 50) (j := 3) rfl (by decide +kernel)) (
  zcons (zk_iaload (pc := 51) (by decide +kernel)) (
  zcons (zk_iload_n (pc := 52) (j := 2) rfl (by decide +kernel)) (
  zcons (zk_iand (pc := 53) (by decide +kernel)) (
  zcons (zk_iconst (pc := 54) (z := 1) (by decide) (by decide +kernel)) (
  zcons (zk_iload (pc := 55) (by decide +kernel)) (
  zcons (zk_ishl (pc := 57) (by decide +kernel)) (
  zcons (zk_iand (pc := 58) (by decide +kernel)) (
  zcons (zk_ifeq (pc := 59) (off := 23) (by decide) (by decide +kernel)) (
  zcons (zk_iload (pc := 62) (by decide +kernel)) (
  zcons (zk_aload_n (pc := 64) (j := 0) rfl (by decide +kernel)) (
  zcons (zk_getr (pc := 65) (ci := 2) (j := 5) rfl zinX2 (by decide) zw_166 (by decide +kernel)) (
  zcons (zk_iload_n (pc := 68) (j := 2) rfl (by decide +kernel)) (
  zcons (zk_iconst (pc := 69) (z := 1) (by decide) (by decide +kernel)) (
  zcons (zk_iload_n (pc := 70) (j := 3) rfl (by decide +kernel)) (
  zcons (zk_ishl (pc := 71) (by decide +kernel)) (
  zcons (zk_ixor (pc := 72) (by decide +kernel)) (
  zcons (zk_iconst (pc := 73) (z := 1) (by decide) (by decide +kernel)) (
  zcons (zk_iload (pc := 74) (by decide +kernel)) (
  zcons (zk_ishl (pc := 76) (by decide +kernel)) (
  zcons (zk_ixor (pc := 77) (by decide +kernel)) (
  zcons (zk_iaload (pc := 78) (by decide +kernel)) (
  zcons (zk_iadd (pc := 79) (by decide +kernel)) (
  zcons (zk_istore (pc := 80) (by decide +kernel)) (
  zcons (zk_iinc (pc := 82) (z := 1) (by decide) (by decide +kernel)) (
  zcons (zk_goto (pc := 85) (off := (-48)) (by decide) (by decide +kernel)) (
  zcons (zk_aload_n (pc := 88) (j := 0) rfl (by decide +kernel)) (
  zcons (zk_getr (pc := 89) (ci := 2) (j := 5) rfl zinX2 (by decide) zw_166 (by decide +kernel)) (
  zcons (zk_iload_n (pc := 92) (j := 2) rfl (by decide +kernel)) (
  zcons (zk_iload (pc := 93) (by decide +kernel)) (
  zcons (zk_iastore (pc := 95) (by decide +kernel)) (
  zcons (zk_iinc (pc := 96) (z := 1) (by decide) (by decide +kernel)) (
  zcons (zk_goto (pc := 99) (off := (-90)) (by decide) (by decide +kernel)) (
  zcons (zk_aload_n (pc := 102) (j := 0) rfl (by decide +kernel)) (
  zcons (zk_getr (pc := 103) (ci := 2) (j := 5) rfl zinX2 (by decide) zw_166 (by decide +kernel)) (
  zcons (zk_aload_n (pc := 106) (j := 1) rfl (by decide +kernel)) (
  zcons (zk_getN (pc := 107) (ci := 5) (j := 5) rfl zinX5 (by decide) zw_81 (by decide +kernel)) (
  zcons (zk_iaload (pc := 110) (by decide +kernel)) (
  zcons (zk_reti (pc := 111) rfl (by decide +kernel)) (znil))))))))))))))))))))))))))))))))))))))))))))))))))))))))))))))))))))
def tb_X2_sideOf : List (Nat × ZP) := [(0, zo_i 0 1), (1, zo_is 4 3), (3, zo_i 0 4), (4, zo_is 5 6), (6, zo_i 0 7), (7, zo_is 6 9), (9, zo_il 6 11), (11, zo_al 0 12), (12, zo_get 2 3 15), (15, zo_icge 100 18), (18, zo_al 0 19), (19, zo_getr 2 1 22), (22, zo_il 6 24), (24, zo_iald 25), (25, zo_is 7 27), (27, zo_il 7 29), (29, zo_il 2 30), (30, zo_bin zshr 31), (31, zo_i 1 32), (32, zo_bin (· &&& ·) 33), (33, zo_ifeq 49 36), (36, zo_il 7 38), (38, zo_il 3 39), (39, zo_bin zshr 40), (40, zo_i 1 41), (41, zo_bin (· &&& ·) 42), (42, zo_ifne 49 45), (45, zo_i 1 46), (46, zo_goto 50), (49, zo_i 0 50), (50, zo_is 8 52), (52, zo_il 8 54), (54, zo_ifeq 94 57), (57, zo_al 1 58), (58, zo_il 7 60), (60, zo_cvi 5 62 1 63), (63, zo_ifeq 94 66), (66, zo_al 1 67), (67, zo_il 7 69), (69, zo_cvi 5 70 1 72), (72, zo_is 9 74), (74, zo_il 4 76), (76, zo_ifeq 86 79), (79, zo_il 9 81), (81, zo_il 5 83), (83, zo_icge 94 86), (86, zo_il 7 88), (88, zo_is 4 90), (90, zo_il 9 92), (92, zo_is 5 94), (94, zo_inc 6 1 97), (97, zo_goto 9), (100, zo_il 4 102), (102, zo_reti)]
def cu_X2_sideOf : List (Nat × List Bool) := [(9, [true, true, true, true, true, true, true, false, false, false])]
set_option maxRecDepth 100000 in
set_option maxHeartbeats 4000000 in
theorem ok_X2_sideOf : ∀ e ∈ tb_X2_sideOf, ZOK zmt cX2_sideOf RX2 1 e.1 e.2 :=
  zcons (zk_iconst (pc := 0) (z := 0) (by decide) (by decide +kernel)) (
  zcons (zk_istore (pc := 1) (by decide +kernel)) (
  zcons (zk_iconst (pc := 3) (z := 0) (by decide) (by decide +kernel)) (
  zcons (zk_istore (pc := 4) (by decide +kernel)) (
  zcons (zk_iconst (pc := 6) (z := 0) (by decide) (by decide +kernel)) (
  zcons (zk_istore (pc := 7) (by decide +kernel)) (
  zcons (zk_iload (pc := 9) (by decide +kernel)) (
  zcons (zk_aload_n (pc := 11) (j := 0) rfl (by decide +kernel)) (
  zcons (zk_get (pc := 12) (ci := 2) (j := 3) rfl zinX2 (by decide) zw_164 (by decide +kernel)) (
  zcons (zk_icge (pc := 15) (off := 85) (by decide) (by decide +kernel)) (
  zcons (zk_aload_n (pc := 18) (j := 0) rfl (by decide +kernel)) (
  zcons (zk_getr (pc := 19) (ci := 2) (j := 1) rfl zinX2 (by decide) zw_162 (by decide +kernel)) (
  zcons (zk_iload (pc := 22) (by decide +kernel)) (
  zcons (zk_iaload (pc := 24) (by decide +kernel)) (
  zcons (zk_istore (pc := 25) (by decide +kernel)) (
  zcons (zk_iload (pc := 27) (by decide +kernel)) (
  zcons (zk_iload_n (pc := 29) (j := 2) rfl (by decide +kernel)) (
  zcons (zk_ishr (pc := 30) (by decide +kernel)) (
  zcons (zk_iconst (pc := 31) (z := 1) (by decide) (by decide +kernel)) (
  zcons (zk_iand (pc := 32) (by decide +kernel)) (
  zcons (zk_ifeq (pc := 33) (off := 16) (by decide) (by decide +kernel)) (
  zcons (zk_iload (pc := 36) (by decide +kernel)) (
  zcons (zk_iload_n (pc := 38) (j := 3) rfl (by decide +kernel)) (
  zcons (zk_ishr (pc := 39) (by decide +kernel)) (
  zcons (zk_iconst (pc := 40) (z := 1) (by decide) (by decide +kernel)) (
  zcons (zk_iand (pc := 41) (by decide +kernel)) (
  zcons (zk_ifne (pc := 42) (off := 7) (by decide) (by decide +kernel)) (
  zcons (zk_iconst (pc := 45) (z := 1) (by decide) (by decide +kernel)) (
  zcons (zk_goto (pc := 46) (off := 4) (by decide) (by decide +kernel)) (
  zcons (zk_iconst (pc := 49) (z := 0) (by decide) (by decide +kernel)) (
  zcons (zk_istore (pc := 50) (by decide +kernel)) (
  zcons (zk_iload (pc := 52) (by decide +kernel)) (
  zcons (zk_ifeq (pc := 54) (off := 40) (by decide) (by decide +kernel)) (
  zcons (zk_aload_n (pc := 57) (j := 1) rfl (by decide +kernel)) (
  zcons (zk_iload (pc := 58) (by decide +kernel)) (
  zcons (zk_cviN (pc := 60) 62 rfl (ci := 5) rfl zw_465 zw_467 zsel_X5_holds zds_X5_holds (by decide) zw_468 zw_3 (by decide +kernel)) (
  zcons (zk_ifeq (pc := 63) (off := 31) (by decide) (by decide +kernel)) (
  zcons (zk_aload_n (pc := 66) (j := 1) rfl (by decide +kernel)) (
  zcons (zk_iload (pc := 67) (by decide +kernel)) (
  zcons (zk_cviN (pc := 69) 70 rfl (ci := 5) rfl zw_656 zw_488 zsel_X5_tearsOf zds_X5_tearsOf (by decide) zw_489 zw_3 (by decide +kernel)) (
  zcons (zk_istore (pc := 72) (by decide +kernel)) (
  zcons (zk_iload (pc := 74) (by decide +kernel)) (
  zcons (zk_ifeq (pc := 76) (off := 10) (by decide) (by decide +kernel)) (
  zcons (zk_iload (pc := 79) (by decide +kernel)) (
  zcons (zk_iload (pc := 81) (by decide +kernel)) (
  zcons (zk_icge (pc := 83) (off := 11) (by decide) (by decide +kernel)) (
  zcons (zk_iload (pc := 86) (by decide +kernel)) (
  zcons (zk_istore (pc := 88) (by decide +kernel)) (
  zcons (zk_iload (pc := 90) (by decide +kernel)) (
  zcons (zk_istore (pc := 92) (by decide +kernel)) (
  zcons (zk_iinc (pc := 94) (z := 1) (by decide) (by decide +kernel)) (
  zcons (zk_goto (pc := 97) (off := (-88)) (by decide) (by decide +kernel)) (
  zcons (zk_iload (pc := 100) (by decide +kernel)) (
  zcons (zk_reti (pc := 102) rfl (by decide +kernel)) (znil))))))))))))))))))))))))))))))))))))))))))))))))))))))
def tb_X2_casesOfFewLost : List (Nat × ZP) := [(0, zo_al 0 1), (1, zo_getr 2 7 4), (4, zo_l 0 5), (5, zo_csv 236 2 8), (8, zo_al 0 9), (9, zo_getr 2 7 12), (12, zo_i 0 13), (13, zo_l 1 14), (14, zo_last 15), (15, zo_i 0 16), (16, zo_is 5 18), (18, zo_il 5 20), (20, zo_al 1 21), (21, zo_get 5 1 24), (24, zo_icge 98 27), (27, zo_al 1 28), (28, zo_getr 5 8 31), (31, zo_il 5 33), (33, zo_iald 34), (34, zo_il 2 35), (35, zo_bin (· &&& ·) 36), (36, zo_csi 233 1 39), (39, zo_is 6 41), (41, zo_il 6 43), (43, zo_ifle 92 46), (46, zo_al 1 47), (47, zo_get 5 5 50), (50, zo_il 2 51), (51, zo_i (-1) 52), (52, zo_bin (· ^^^ ·) 53), (53, zo_bin (· &&& ·) 54), (54, zo_i 1 55), (55, zo_il 5 57), (57, zo_bin zshl 58), (58, zo_bin (· &&& ·) 59), (59, zo_ifeq 92 62), (62, zo_i 10 64), (64, zo_il 4 66), (66, zo_bin (· - ·) 67), (67, zo_i2l 68), (68, zo_il 6 70), (70, zo_csl 134 2 73), (73, zo_ls 7 75), (75, zo_al 0 76), (76, zo_ll 7 78), (78, zo_l 10 81), (81, zo_il 6 83), (83, zo_csl 134 2 86), (86, zo_ll 7 88), (88, zo_lbin (· - ·) 89), (89, zo_cvv 2 37 2 92), (92, zo_inc 5 1 95), (95, zo_goto 18), (98, zo_l 0 99), (99, zo_ls 5 101), (101, zo_i 0 102), (102, zo_is 7 104), (104, zo_il 7 106), (106, zo_il 3 107), (107, zo_icgt 135 110), (110, zo_il 7 112), (112, zo_i 10 114), (114, zo_icgt 135 117), (117, zo_ll 5 119), (119, zo_al 0 120), (120, zo_getr 2 7 123), (123, zo_il 7 125), (125, zo_lald 126), (126, zo_lbin (· + ·) 127), (127, zo_ls 5 129), (129, zo_inc 7 1 132), (132, zo_goto 104), (135, zo_ll 5 137), (137, zo_retj)]
def cu_X2_casesOfFewLost : List (Nat × List Bool) := [(18, [true, true, true, true, true, true, false, false, false]), (104, [true, false, false, true, false, true, false, true, false])]
set_option maxRecDepth 100000 in
set_option maxHeartbeats 4000000 in
theorem ok_X2_casesOfFewLost : ∀ e ∈ tb_X2_casesOfFewLost, ZOK zmt cX2_casesOfFewLost RX2 2 e.1 e.2 :=
  zcons (zk_aload_n (pc := 0) (j := 0) rfl (by decide +kernel)) (
  zcons (zk_getr (pc := 1) (ci := 2) (j := 7) rfl zinX2 (by decide) zw_168 (by decide +kernel)) (
  zcons (zk_lconst (pc := 4) (z := 0) (by decide) (by decide +kernel)) (
  zcons (zk_csv (pc := 5) 236 rfl zw_820 zw_821 zds_J7_fill_d0a16 (by decide) zw_822 zw_10 (by decide +kernel)) (
  zcons (zk_aload_n (pc := 8) (j := 0) rfl (by decide +kernel)) (
  zcons (zk_getr (pc := 9) (ci := 2) (j := 7) rfl zinX2 (by decide) zw_168 (by decide +kernel)) (
  zcons (zk_iconst (pc := 12) (z := 0) (by decide) (by decide +kernel)) (
  zcons (zk_lconst (pc := 13) (z := 1) (by decide) (by decide +kernel)) (
  zcons (zk_lastore (pc := 14) (by decide +kernel)) (
  zcons (zk_iconst (pc := 15) (z := 0) (by decide) (by decide +kernel)) (
  zcons (zk_istore (pc := 16) (by decide +kernel)) (
  zcons (zk_iload (pc := 18) (by decide +kernel)) (
  zcons (zk_aload_n (pc := 20) (j := 1) rfl (by decide +kernel)) (
  zcons (zk_getN (pc := 21) (ci := 5) (j := 1) rfl zinX5 (by decide) zw_65 (by decide +kernel)) (
  zcons (zk_icge (pc := 24) (off := 74) (by decide) (by decide +kernel)) (
  zcons (zk_aload_n (pc := 27) (j := 1) rfl (by decide +kernel)) (
  zcons (zk_getrN (pc := 28) (ci := 5) (j := 8) rfl zinX5 (by decide) zw_87 (by decide +kernel)) (
  zcons (zk_iload (pc := 31) (by decide +kernel)) (
  zcons (zk_iaload (pc := 33) (by decide +kernel)) (
  zcons (zk_iload_n (pc := 34) (j := 2) rfl (by decide +kernel)) (
  zcons (zk_iand (pc := 35) (by decide +kernel)) (
  zcons (zk_csi (pc := 36) 233 rfl zw_422 zw_423 zds_J6_bitCount_0f7a4 (by decide) zw_424 zw_13 (by decide +kernel)) (
  zcons (zk_istore (pc := 39) (by decide +kernel)) (
  zcons (zk_iload (pc := 41) (by decide +kernel)) (
  zcons (zk_ifle (pc := 43) (off := 49) (by decide) (by decide +kernel)) (
  zcons (zk_aload_n (pc := 46) (j := 1) rfl (by decide +kernel)) (
  zcons (zk_getN (pc := 47) (ci := 5) (j := 5) rfl zinX5 (by decide) zw_81 (by decide +kernel)) (
  zcons (zk_iload_n (pc := 50) (j := 2) rfl (by decide +kernel)) (
  zcons (zk_iconst (pc := 51) (z := (-1)) (by decide) (by decide +kernel)) (
  zcons (zk_ixor (pc := 52) (by decide +kernel)) (
  zcons (zk_iand (pc := 53) (by decide +kernel)) (
  zcons (zk_iconst (pc := 54) (z := 1) (by decide) (by decide +kernel)) (
  zcons (zk_iload (pc := 55) (by decide +kernel)) (
  zcons (zk_ishl (pc := 57) (by decide +kernel)) (
  zcons (zk_iand (pc := 58) (by decide +kernel)) (
  zcons (zk_ifeq (pc := 59) (off := 33) (by decide) (by decide +kernel)) (
  zcons (zk_bipush (pc := 62) (z := 10) (by decide) (by decide +kernel)) (
  zcons (zk_iload (pc := 64) (by decide +kernel)) (
  zcons (zk_isub (pc := 66) (by decide +kernel)) (
  zcons (zk_i2l (pc := 67) (by decide +kernel)) (
  zcons (zk_iload (pc := 68) (by decide +kernel)) (
  zcons (zk_cslN (pc := 70) 134 rfl zw_823 zw_814 zds_X7_powerOf (by decide) zw_815 zw_1 (by decide +kernel)) (
  zcons (zk_lstore (pc := 73) (by decide +kernel)) (
  zcons (zk_aload_n (pc := 75) (j := 0) rfl (by decide +kernel)) (
  zcons (zk_lload (pc := 76) (by decide +kernel)) (
  zcons (zk_ldc2 (pc := 78) zw_824 (by decide +kernel)) (
  zcons (zk_iload (pc := 81) (by decide +kernel)) (
  zcons (zk_cslN (pc := 83) 134 rfl zw_823 zw_814 zds_X7_powerOf (by decide) zw_815 zw_1 (by decide +kernel)) (
  zcons (zk_lload (pc := 86) (by decide +kernel)) (
  zcons (zk_lsub (pc := 88) (by decide +kernel)) (
  zcons (zk_cvv (pc := 89) 37 rfl (ci := 2) rfl zw_825 zw_827 zsel_X2_addStamp zds_X2_addStamp (by decide) zw_828 zw_5 (by decide +kernel)) (
  zcons (zk_iinc (pc := 92) (z := 1) (by decide) (by decide +kernel)) (
  zcons (zk_goto (pc := 95) (off := (-77)) (by decide) (by decide +kernel)) (
  zcons (zk_lconst (pc := 98) (z := 0) (by decide) (by decide +kernel)) (
  zcons (zk_lstore (pc := 99) (by decide +kernel)) (
  zcons (zk_iconst (pc := 101) (z := 0) (by decide) (by decide +kernel)) (
  zcons (zk_istore (pc := 102) (by decide +kernel)) (
  zcons (zk_iload (pc := 104) (by decide +kernel)) (
  zcons (zk_iload_n (pc := 106) (j := 3) rfl (by decide +kernel)) (
  zcons (zk_icgt (pc := 107) (off := 28) (by decide) (by decide +kernel)) (
  zcons (zk_iload (pc := 110) (by decide +kernel)) (
  zcons (zk_bipush (pc := 112) (z := 10) (by decide) (by decide +kernel)) (
  zcons (zk_icgt (pc := 114) (off := 21) (by decide) (by decide +kernel)) (
  zcons (zk_lload (pc := 117) (by decide +kernel)) (
  zcons (zk_aload_n (pc := 119) (j := 0) rfl (by decide +kernel)) (
  zcons (zk_getr (pc := 120) (ci := 2) (j := 7) rfl zinX2 (by decide) zw_168 (by decide +kernel)) (
  zcons (zk_iload (pc := 123) (by decide +kernel)) (
  zcons (zk_laload (pc := 125) (by decide +kernel)) (
  zcons (zk_ladd (pc := 126) (by decide +kernel)) (
  zcons (zk_lstore (pc := 127) (by decide +kernel)) (
  zcons (zk_iinc (pc := 129) (z := 1) (by decide) (by decide +kernel)) (
  zcons (zk_goto (pc := 132) (off := (-28)) (by decide) (by decide +kernel)) (
  zcons (zk_lload (pc := 135) (by decide +kernel)) (
  zcons (zk_retj (pc := 137) rfl (by decide +kernel)) (znil))))))))))))))))))))))))))))))))))))))))))))))))))))))))))))))))))))))))))
def tb_X2_addStamp : List (Nat × ZP) := [(0, zo_i 10 2), (2, zo_is 5 4), (4, zo_il 5 6), (6, zo_ifle 43 9), (9, zo_al 0 10), (10, zo_getr 2 7 13), (13, zo_il 5 15), (15, zo_al 0 16), (16, zo_getr 2 7 19), (19, zo_il 5 21), (21, zo_lald 22), (22, zo_ll 1 23), (23, zo_lbin (· * ·) 24), (24, zo_al 0 25), (25, zo_getr 2 7 28), (28, zo_il 5 30), (30, zo_i 1 31), (31, zo_bin (· - ·) 32), (32, zo_lald 33), (33, zo_ll 3 34), (34, zo_lbin (· * ·) 35), (35, zo_lbin (· + ·) 36), (36, zo_last 37), (37, zo_inc 5 (-1) 40), (40, zo_goto 4), (43, zo_al 0 44), (44, zo_getr 2 7 47), (47, zo_i 0 48), (48, zo_dup2 49), (49, zo_lald 50), (50, zo_ll 1 51), (51, zo_lbin (· * ·) 52), (52, zo_last 53), (53, zo_retv)]
def cu_X2_addStamp : List (Nat × List Bool) := [(4, [true, true, false, true, false, true])]
set_option maxRecDepth 100000 in
set_option maxHeartbeats 4000000 in
theorem ok_X2_addStamp : ∀ e ∈ tb_X2_addStamp, ZOK zmt cX2_addStamp RX2 0 e.1 e.2 :=
  zcons (zk_bipush (pc := 0) (z := 10) (by decide) (by decide +kernel)) (
  zcons (zk_istore (pc := 2) (by decide +kernel)) (
  zcons (zk_iload (pc := 4) (by decide +kernel)) (
  zcons (zk_ifle (pc := 6) (off := 37) (by decide) (by decide +kernel)) (
  zcons (zk_aload_n (pc := 9) (j := 0) rfl (by decide +kernel)) (
  zcons (zk_getr (pc := 10) (ci := 2) (j := 7) rfl zinX2 (by decide) zw_168 (by decide +kernel)) (
  zcons (zk_iload (pc := 13) (by decide +kernel)) (
  zcons (zk_aload_n (pc := 15) (j := 0) rfl (by decide +kernel)) (
  zcons (zk_getr (pc := 16) (ci := 2) (j := 7) rfl zinX2 (by decide) zw_168 (by decide +kernel)) (
  zcons (zk_iload (pc := 19) (by decide +kernel)) (
  zcons (zk_laload (pc := 21) (by decide +kernel)) (
  zcons (zk_lload_n (pc := 22) (j := 1) rfl (by decide +kernel)) (
  zcons (zk_lmul (pc := 23) (by decide +kernel)) (
  zcons (zk_aload_n (pc := 24) (j := 0) rfl (by decide +kernel)) (
  zcons (zk_getr (pc := 25) (ci := 2) (j := 7) rfl zinX2 (by decide) zw_168 (by decide +kernel)) (
  zcons (zk_iload (pc := 28) (by decide +kernel)) (
  zcons (zk_iconst (pc := 30) (z := 1) (by decide) (by decide +kernel)) (
  zcons (zk_isub (pc := 31) (by decide +kernel)) (
  zcons (zk_laload (pc := 32) (by decide +kernel)) (
  zcons (zk_lload_n (pc := 33) (j := 3) rfl (by decide +kernel)) (
  zcons (zk_lmul (pc := 34) (by decide +kernel)) (
  zcons (zk_ladd (pc := 35) (by decide +kernel)) (
  zcons (zk_lastore (pc := 36) (by decide +kernel)) (
  zcons (zk_iinc (pc := 37) (z := (-1)) (by decide) (by decide +kernel)) (
  zcons (zk_goto (pc := 40) (off := (-36)) (by decide) (by decide +kernel)) (
  zcons (zk_aload_n (pc := 43) (j := 0) rfl (by decide +kernel)) (
  zcons (zk_getr (pc := 44) (ci := 2) (j := 7) rfl zinX2 (by decide) zw_168 (by decide +kernel)) (
  zcons (zk_iconst (pc := 47) (z := 0) (by decide) (by decide +kernel)) (
  zcons (zk_dup2 (pc := 48) (by decide +kernel)) (
  zcons (zk_laload (pc := 49) (by decide +kernel)) (
  zcons (zk_lload_n (pc := 50) (j := 1) rfl (by decide +kernel)) (
  zcons (zk_lmul (pc := 51) (by decide +kernel)) (
  zcons (zk_lastore (pc := 52) (by decide +kernel)) (
  zcons (zk_retv (pc := 53) rfl (by decide +kernel)) (znil))))))))))))))))))))))))))))))))))

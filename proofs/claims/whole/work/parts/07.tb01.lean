def tb_X5_begin : List (Nat × ZP) := [(0, zo_al 0 1), (1, zo_il 1 2), (2, zo_put 5 0 5), (5, zo_al 0 6), (6, zo_il 1 7), (7, zo_il 2 8), (8, zo_bin (· * ·) 9), (9, zo_i 10 11), (11, zo_csi 235 2 14), (14, zo_put 5 1 17), (17, zo_al 0 18), (18, zo_i 0 19), (19, zo_put 5 2 22), (22, zo_al 0 23), (23, zo_il 3 24), (24, zo_put 5 3 27), (27, zo_al 0 28), (28, zo_i 0 29), (29, zo_put 5 4 32), (32, zo_al 0 33), (33, zo_i 1 34), (34, zo_al 0 35), (35, zo_get 5 1 38), (38, zo_bin zshl 39), (39, zo_i 1 40), (40, zo_bin (· - ·) 41), (41, zo_put 5 5 44), (44, zo_al 0 45), (45, zo_i 0 46), (46, zo_put 5 6 49), (49, zo_al 0 50), (50, zo_i 0 51), (51, zo_put 5 7 54), (54, zo_i 0 55), (55, zo_is 4 57), (57, zo_il 4 59), (59, zo_al 0 60), (60, zo_get 5 1 63), (63, zo_icge 85 66), (66, zo_al 0 67), (67, zo_getr 5 8 70), (70, zo_il 4 72), (72, zo_al 0 73), (73, zo_il 4 75), (75, zo_cvi 5 54 1 78), (78, zo_iast 79), (79, zo_inc 4 1 82), (82, zo_goto 57), (85, zo_retv)]
def cu_X5_begin : List (Nat × List Bool) := [(57, [true, false, false, false, true])]
set_option maxRecDepth 100000 in
set_option maxHeartbeats 4000000 in
theorem ok_X5_begin : ∀ e ∈ tb_X5_begin, ZOK zmt cX5_begin RX5 0 e.1 e.2 :=
  zcons (zk_aload_n (pc := 0) (j := 0) rfl (by decide +kernel)) (
  zcons (zk_iload_n (pc := 1) (j := 1) rfl (by decide +kernel)) (
  zcons (zk_put (pc := 2) (ci := 5) (j := 0) rfl zinX5 (by decide) zw_62 tyX5 tyX5_ok nmX5 rfl (by decide +kernel) (by decide +kernel)) (
  zcons (zk_aload_n (pc := 5) (j := 0) rfl (by decide +kernel)) (
  zcons (zk_iload_n (pc := 6) (j := 1) rfl (by decide +kernel)) (
  zcons (zk_iload_n (pc := 7) (j := 2) rfl (by decide +kernel)) (
  zcons (zk_imul (pc := 8) (by decide +kernel)) (
  zcons (zk_bipush (pc := 9) (z := 10) (by decide) (by decide +kernel)) (
  zcons (zk_csi (pc := 11) 235 rfl zw_383 zw_377 zds_J9_min_7cf53 (by decide) zw_378 zw_12 (by decide +kernel)) (
  zcons (zk_put (pc := 14) (ci := 5) (j := 1) rfl zinX5 (by decide) zw_64 tyX5 tyX5_ok nmX5 rfl (by decide +kernel) (by decide +kernel)) (
  zcons (zk_aload_n (pc := 17) (j := 0) rfl (by decide +kernel)) (
  zcons (zk_iconst (pc := 18) (z := 0) (by decide) (by decide +kernel)) (
  zcons (zk_put (pc := 19) (ci := 5) (j := 2) rfl zinX5 (by decide) zw_68 tyX5 tyX5_ok nmX5 rfl (by decide +kernel) (by decide +kernel)) (
  zcons (zk_aload_n (pc := 22) (j := 0) rfl (by decide +kernel)) (
  zcons (zk_iload_n (pc := 23) (j := 3) rfl (by decide +kernel)) (
  zcons (zk_put (pc := 24) (ci := 5) (j := 3) rfl zinX5 (by decide) zw_71 tyX5 tyX5_ok nmX5 rfl (by decide +kernel) (by decide +kernel)) (
  zcons (zk_aload_n (pc := 27) (j := 0) rfl (by decide +kernel)) (
  zcons (zk_iconst (pc := 28) (z := 0) (by decide) (by decide +kernel)) (
  zcons (zk_put (pc := 29) (ci := 5) (j := 4) rfl zinX5 (by decide) zw_75 tyX5 tyX5_ok nmX5 rfl (by decide +kernel) (by decide +kernel)) (
  zcons (zk_aload_n (pc := 32) (j := 0) rfl (by decide +kernel)) (
  zcons (zk_iconst (pc := 33) (z := 1) (by decide) (by decide +kernel)) (
  zcons (zk_aload_n (pc := 34) (j := 0) rfl (by decide +kernel)) (
  zcons (zk_get (pc := 35) (ci := 5) (j := 1) rfl zinX5 (by decide) zw_64 (by decide +kernel)) (
  zcons (zk_ishl (pc := 38) (by decide +kernel)) (
  zcons (zk_iconst (pc := 39) (z := 1) (by decide) (by decide +kernel)) (
  zcons (zk_isub (pc := 40) (by decide +kernel)) (
  zcons (zk_put (pc := 41) (ci := 5) (j := 5) rfl zinX5 (by decide) zw_78 tyX5 tyX5_ok nmX5 rfl (by decide +kernel) (by decide +kernel)) (
  zcons (zk_aload_n (pc := 44) (j := 0) rfl (by decide +kernel)) (
  zcons (zk_iconst (pc := 45) (z := 0) (by decide) (by decide +kernel)) (
  zcons (zk_put (pc := 46) (ci := 5) (j := 6) rfl zinX5 (by decide) zw_82 tyX5 tyX5_ok nmX5 rfl (by decide +kernel) (by decide +kernel)) (
  zcons (zk_aload_n (pc := 49) (j := 0) rfl (by decide +kernel)) (
  zcons (zk_iconst (pc := 50) (z := 0) (by decide) (by decide +kernel)) (
  zcons (zk_put (pc := 51) (ci := 5) (j := 7) rfl zinX5 (by decide) zw_85 tyX5 tyX5_ok nmX5 rfl (by decide +kernel) (by decide +kernel)) (
  zcons (zk_iconst (pc := 54) (z := 0) (by decide) (by decide +kernel)) (
  zcons (zk_istore (pc := 55) (by decide +kernel)) (
  zcons (zk_iload (pc := 57) (by decide +kernel)) (
  zcons (zk_aload_n (pc := 59) (j := 0) rfl (by decide +kernel)) (
  zcons (zk_get (pc := 60) (ci := 5) (j := 1) rfl zinX5 (by decide) zw_64 (by decide +kernel)) (
  zcons (zk_icge (pc := 63) (off := 22) (by decide) (by decide +kernel)) (
  zcons (zk_aload_n (pc := 66) (j := 0) rfl (by decide +kernel)) (
  zcons (zk_getr (pc := 67) (ci := 5) (j := 8) rfl zinX5 (by decide) zw_86 (by decide +kernel)) (
  zcons (zk_iload (pc := 70) (by decide +kernel)) (
  zcons (zk_aload_n (pc := 72) (j := 0) rfl (by decide +kernel)) (
  zcons (zk_iload (pc := 73) (by decide +kernel)) (
  zcons (zk_cvi (pc := 75) 54 rfl (ci := 5) rfl zw_384 zw_386 zsel_X5_findNext zds_X5_findNext (by decide) zw_387 zw_3 (by decide +kernel)) (
  zcons (zk_iastore (pc := 78) (by decide +kernel)) (
  zcons (zk_iinc (pc := 79) (z := 1) (by decide) (by decide +kernel)) (
  zcons (zk_goto (pc := 82) (off := (-25)) (by decide) (by decide +kernel)) (
  zcons (zk_retv (pc := 85) rfl (by decide +kernel)) (znil)))))))))))))))))))))))))))))))))))))))))))))))))
def tb_X5_findNext : List (Nat × ZP) := [(0, zo_al 0 1), (1, zo_get 5 0 4), (4, zo_i 1 5), (5, zo_icge 10 8), (8, zo_i 0 9), (9, zo_reti), (10, zo_i 0 11), (11, zo_is 2 12), (12, zo_il 2 13), (13, zo_il 1 14), (14, zo_al 0 15), (15, zo_get 5 0 18), (18, zo_dv zrem 19), (19, zo_ifle 30 22), (22, zo_i 1 23), (23, zo_il 1 24), (24, zo_i 1 25), (25, zo_bin (· - ·) 26), (26, zo_bin zshl 27), (27, zo_goto 31), (30, zo_i 0 31), (31, zo_bin (· ||| ·) 32), (32, zo_is 2 33), (33, zo_il 2 34), (34, zo_il 1 35), (35, zo_al 0 36), (36, zo_get 5 0 39), (39, zo_dv zrem 40), (40, zo_al 0 41), (41, zo_get 5 0 44), (44, zo_i 1 45), (45, zo_bin (· - ·) 46), (46, zo_icge 57 49), (49, zo_i 1 50), (50, zo_il 1 51), (51, zo_i 1 52), (52, zo_bin (· + ·) 53), (53, zo_bin zshl 54), (54, zo_goto 58), (57, zo_i 0 58), (58, zo_bin (· ||| ·) 59), (59, zo_is 2 60), (60, zo_il 2 61), (61, zo_il 1 62), (62, zo_al 0 63), (63, zo_get 5 0 66), (66, zo_iclt 80 69), (69, zo_i 1 70), (70, zo_il 1 71), (71, zo_al 0 72), (72, zo_get 5 0 75), (75, zo_bin (· - ·) 76), (76, zo_bin zshl 77), (77, zo_goto 81), (80, zo_i 0 81), (81, zo_bin (· ||| ·) 82), (82, zo_is 2 83), (83, zo_il 2 84), (84, zo_il 1 85), (85, zo_al 0 86), (86, zo_get 5 0 89), (89, zo_bin (· + ·) 90), (90, zo_al 0 91), (91, zo_get 5 1 94), (94, zo_icge 108 97), (97, zo_i 1 98), (98, zo_il 1 99), (99, zo_al 0 100), (100, zo_get 5 0 103), (103, zo_bin (· + ·) 104), (104, zo_bin zshl 105), (105, zo_goto 109), (108, zo_i 0 109), (109, zo_bin (· ||| ·) 110), (110, zo_is 2 111), (111, zo_il 2 112), (112, zo_reti)]
def cu_X5_findNext : List (Nat × List Bool) := []
set_option maxRecDepth 100000 in
set_option maxHeartbeats 4000000 in
theorem ok_X5_findNext : ∀ e ∈ tb_X5_findNext, ZOK zmt cX5_findNext RX5 1 e.1 e.2 :=
  zcons (zk_aload_n (pc := 0) (j := 0) rfl (by decide +kernel)) (
  zcons (zk_get (pc := 1) (ci := 5) (j := 0) rfl zinX5 (by decide) zw_62 (by decide +kernel)) (
  zcons (zk_iconst (pc := 4) (z := 1) (by decide) (by decide +kernel)) (
  zcons (zk_icge (pc := 5) (off := 5) (by decide) (by decide +kernel)) (
  zcons (zk_iconst (pc := 8) (z := 0) (by decide) (by decide +kernel)) (
  zcons (zk_reti (pc := 9) rfl (by decide +kernel)) (
  zcons (zk_iconst (pc := 10) (z := 0) (by decide) (by decide +kernel)) (
  zcons (zk_istore_n (pc := 11) (j := 2) rfl (by decide +kernel)) (
  zcons (zk_iload_n (pc := 12) (j := 2) rfl (by decide +kernel)) (
  zcons (zk_iload_n (pc := 13) (j := 1) rfl (by decide +kernel)) (
  zcons (zk_aload_n (pc := 14) (j := 0) rfl (by decide +kernel)) (
  zcons (zk_get (pc := 15) (ci := 5) (j := 0) rfl zinX5 (by decide) zw_62 (by decide +kernel)) (
  zcons (zk_irem (pc := 18) (by decide +kernel)) (
  zcons (zk_ifle (pc := 19) (off := 11) (by decide) (by decide +kernel)) (
  zcons (zk_iconst (pc := 22) (z := 1) (by decide) (by decide +kernel)) (
  zcons (zk_iload_n (pc := 23) (j := 1) rfl (by decide +kernel)) (
  zcons (zk_iconst (pc := 24) (z := 1) (by decide) (by decide +kernel)) (
  zcons (zk_isub (pc := 25) (by decide +kernel)) (
  zcons (zk_ishl (pc := 26) (by decide +kernel)) (
  zcons (zk_goto (pc := 27) (off := 4) (by decide) (by decide +kernel)) (
  zcons (zk_iconst (pc := 30) (z := 0) (by decide) (by decide +kernel)) (
  zcons (zk_ior (pc := 31) (by decide +kernel)) (
  zcons (zk_istore_n (pc := 32) (j := 2) rfl (by decide +kernel)) (
  zcons (zk_iload_n (pc := 33) (j := 2) rfl (by decide +kernel)) (
  zcons (zk_iload_n (pc := 34) (j := 1) rfl (by decide +kernel)) (
  zcons (zk_aload_n (pc := 35) (j := 0) rfl (by decide +kernel)) (
  zcons (zk_get (pc := 36) (ci := 5) (j := 0) rfl zinX5 (by decide) zw_62 (by decide +kernel)) (
  zcons (zk_irem (pc := 39) (by decide +kernel)) (
  zcons (zk_aload_n (pc := 40) (j := 0) rfl (by decide +kernel)) (
  zcons (zk_get (pc := 41) (ci := 5) (j := 0) rfl zinX5 (by decide) zw_62 (by decide +kernel)) (
  zcons (zk_iconst (pc := 44) (z := 1) (by decide) (by decide +kernel)) (
  zcons (zk_isub (pc := 45) (by decide +kernel)) (
  zcons (zk_icge (pc := 46) (off := 11) (by decide) (by decide +kernel)) (
  zcons (zk_iconst (pc := 49) (z := 1) (by decide) (by decide +kernel)) (
  zcons (zk_iload_n (pc := 50) (j := 1) rfl (by decide +kernel)) (
  zcons (zk_iconst (pc := 51) (z := 1) (by decide) (by decide +kernel)) (
  zcons (zk_iadd (pc := 52) (by decide +kernel)) (
  zcons (zk_ishl (pc := 53) (by decide +kernel)) (
  zcons (zk_goto (pc := 54) (off := 4) (by decide) (by decide +kernel)) (
  zcons (zk_iconst (pc := 57) (z := 0) (by decide) (by decide +kernel)) (
  zcons (zk_ior (pc := 58) (by decide +kernel)) (
  zcons (zk_istore_n (pc := 59) (j := 2) rfl (by decide +kernel)) (
  zcons (zk_iload_n (pc := 60) (j := 2) rfl (by decide +kernel)) (
  zcons (zk_iload_n (pc := 61) (j := 1) rfl (by decide +kernel)) (
  zcons (zk_aload_n (pc := 62) (j := 0) rfl (by decide +kernel)) (
  zcons (zk_get (pc := 63) (ci := 5) (j := 0) rfl zinX5 (by decide) zw_62 (by decide +kernel)) (
  zcons (zk_iclt (pc := 66) (off := 14) (by decide) (by decide +kernel)) (
  zcons (zk_iconst (pc := 69) (z := 1) (by decide) (by decide +kernel)) (
  zcons (zk_iload_n (pc := 70) (j := 1) rfl (by decide +kernel)) (
  zcons (zk_aload_n (pc := 71) (j := 0) rfl (by decide +kernel)) (
  zcons (zk_get (pc := 72) (ci := 5) (j := 0) rfl zinX5 (by decide) zw_62 (by decide +kernel)) (
  zcons (zk_isub (pc := 75) (by decide +kernel)) (
  zcons (zk_ishl (pc := 76) (by decide +kernel)) (
  zcons (zk_goto (pc := 77) (off := 4) (by decide) (by decide +kernel)) (
  zcons (zk_iconst (pc := 80) (z := 0) (by decide) (by decide +kernel)) (
  zcons (zk_ior (pc := 81) (by decide +kernel)) (
  zcons (zk_istore_n (pc := 82) (j := 2) rfl (by decide +kernel)) (
  zcons (zk_iload_n (pc := 83) (j := 2) rfl (by decide +kernel)) (
  zcons (zk_iload_n (pc := 84) (j := 1) rfl (by decide +kernel)) (
  zcons (zk_aload_n (pc := 85) (j := 0) rfl (by decide +kernel)) (
  zcons (zk_get (pc := 86) (ci := 5) (j := 0) rfl zinX5 (by decide) zw_62 (by decide +kernel)) (
  zcons (zk_iadd (pc := 89) (by decide +kernel)) (
  zcons (zk_aload_n (pc := 90) (j := 0) rfl (by decide +kernel)) (
  zcons (zk_get (pc := 91) (ci := 5) (j := 1) rfl zinX5 (by decide) zw_64 (by decide +kernel)) (
  zcons (zk_icge (pc := 94) (off := 14) (by decide) (by decide +kernel)) (
  zcons (zk_iconst (pc := 97) (z := 1) (by decide) (by decide +kernel)) (
  zcons (zk_iload_n (pc := 98) (j := 1) rfl (by decide +kernel)) (
  zcons (zk_aload_n (pc := 99) (j := 0) rfl (by decide +kernel)) (
  zcons (zk_get (pc := 100) (ci := 5) (j := 0) rfl zinX5 (by decide) zw_62 (by decide +kernel)) (
  zcons (zk_iadd (pc := 103) (by decide +kernel)) (
  zcons (zk_ishl (pc := 104) (by decide +kernel)) (
  zcons (zk_goto (pc := 105) (off := 4) (by decide) (by decide +kernel)) (
  zcons (zk_iconst (pc := 108) (z := 0) (by decide) (by decide +kernel)) (
  zcons (zk_ior (pc := 109) (by decide +kernel)) (
  zcons (zk_istore_n (pc := 110) (j := 2) rfl (by decide +kernel)) (
  zcons (zk_iload_n (pc := 111) (j := 2) rfl (by decide +kernel)) (
  zcons (zk_reti (pc := 112) rfl (by decide +kernel)) (znil)))))))))))))))))))))))))))))))))))))))))))))))))))))))))))))))))))))))))))))
def tb_X5_put : List (Nat × ZP) := [(0, zo_al 0 1), (1, zo_getr 5 9 4), (4, zo_il 1 5), (5, zo_il 2 6), (6, zo_iast 7), (7, zo_al 0 8), (8, zo_getr 5 10 11), (11, zo_il 1 12), (12, zo_il 3 13), (13, zo_iast 14), (14, zo_al 0 15), (15, zo_il 2 16), (16, zo_i 4 17), (17, zo_iclt 31 20), (20, zo_al 0 21), (21, zo_get 5 7 24), (24, zo_i 1 25), (25, zo_il 1 26), (26, zo_bin zshl 27), (27, zo_bin (· ||| ·) 28), (28, zo_goto 41), (31, zo_al 0 32), (32, zo_get 5 7 35), (35, zo_i 1 36), (36, zo_il 1 37), (37, zo_bin zshl 38), (38, zo_i (-1) 39), (39, zo_bin (· ^^^ ·) 40), (40, zo_bin (· &&& ·) 41), (41, zo_put 5 7 44), (44, zo_retv)]
def cu_X5_put : List (Nat × List Bool) := []
set_option maxRecDepth 100000 in
set_option maxHeartbeats 4000000 in
theorem ok_X5_put : ∀ e ∈ tb_X5_put, ZOK zmt cX5_put RX5 0 e.1 e.2 :=
  zcons (zk_aload_n (pc := 0) (j := 0) rfl (by decide +kernel)) (
  zcons (zk_getr (pc := 1) (ci := 5) (j := 9) rfl zinX5 (by decide) zw_89 (by decide +kernel)) (
  zcons (zk_iload_n (pc := 4) (j := 1) rfl (by decide +kernel)) (
  zcons (zk_iload_n (pc := 5) (j := 2) rfl (by decide +kernel)) (
  zcons (zk_iastore (pc := 6) (by decide +kernel)) (
  zcons (zk_aload_n (pc := 7) (j := 0) rfl (by decide +kernel)) (
  zcons (zk_getr (pc := 8) (ci := 5) (j := 10) rfl zinX5 (by decide) zw_92 (by decide +kernel)) (
  zcons (zk_iload_n (pc := 11) (j := 1) rfl (by decide +kernel)) (
  zcons (zk_iload_n (pc := 12) (j := 3) rfl (by decide +kernel)) (
  zcons (zk_iastore (pc := 13) (by decide +kernel)) (
  zcons (zk_aload_n (pc := 14) (j := 0) rfl (by decide +kernel)) (
  zcons (zk_iload_n (pc := 15) (j := 2) rfl (by decide +kernel)) (
  zcons (zk_iconst (pc := 16) (z := 4) (by decide) (by decide +kernel)) (
  zcons (zk_iclt (pc := 17) (off := 14) (by decide) (by decide +kernel)) (
  zcons (zk_aload_n (pc := 20) (j := 0) rfl (by decide +kernel)) (
  zcons (zk_get (pc := 21) (ci := 5) (j := 7) rfl zinX5 (by decide) zw_85 (by decide +kernel)) (
  zcons (zk_iconst (pc := 24) (z := 1) (by decide) (by decide +kernel)) (
  zcons (zk_iload_n (pc := 25) (j := 1) rfl (by decide +kernel)) (
  zcons (zk_ishl (pc := 26) (by decide +kernel)) (
  zcons (zk_ior (pc := 27) (by decide +kernel)) (
  zcons (zk_goto (pc := 28) (off := 13) (by decide) (by decide +kernel)) (
  zcons (zk_aload_n (pc := 31) (j := 0) rfl (by decide +kernel)) (
  zcons (zk_get (pc := 32) (ci := 5) (j := 7) rfl zinX5 (by decide) zw_85 (by decide +kernel)) (
  zcons (zk_iconst (pc := 35) (z := 1) (by decide) (by decide +kernel)) (
  zcons (zk_iload_n (pc := 36) (j := 1) rfl (by decide +kernel)) (
  zcons (zk_ishl (pc := 37) (by decide +kernel)) (
  zcons (zk_iconst (pc := 38) (z := (-1)) (by decide) (by decide +kernel)) (
  zcons (zk_ixor (pc := 39) (by decide +kernel)) (
  zcons (zk_iand (pc := 40) (by decide +kernel)) (
  zcons (zk_put (pc := 41) (ci := 5) (j := 7) rfl zinX5 (by decide) zw_85 tyX5 tyX5_ok nmX5 rfl (by decide +kernel) (by decide +kernel)) (
  zcons (zk_retv (pc := 44) rfl (by decide +kernel)) (znil)))))))))))))))))))))))))))))))
def tb_X5_add : List (Nat × ZP) := [(0, zo_al 0 1), (1, zo_get 5 2 4), (4, zo_i 5 5), (5, zo_icge 48 8), (8, zo_al 0 9), (9, zo_getr 5 11 12), (12, zo_al 0 13), (13, zo_get 5 2 16), (16, zo_il 1 17), (17, zo_iast 18), (18, zo_al 0 19), (19, zo_getr 5 12 22), (22, zo_al 0 23), (23, zo_get 5 2 26), (26, zo_il 2 27), (27, zo_iast 28), (28, zo_al 0 29), (29, zo_getr 5 13 32), (32, zo_al 0 33), (33, zo_get 5 2 36), (36, zo_i 0 37), (37, zo_iast 38), (38, zo_al 0 39), (39, zo_dup 40), (40, zo_get 5 2 43), (43, zo_i 1 44), (44, zo_bin (· + ·) 45), (45, zo_put 5 2 48), (48, zo_retv)]
def cu_X5_add : List (Nat × List Bool) := []
set_option maxRecDepth 100000 in
set_option maxHeartbeats 4000000 in
theorem ok_X5_add : ∀ e ∈ tb_X5_add, ZOK zmt cX5_add RX5 0 e.1 e.2 :=
  zcons (zk_aload_n (pc := 0) (j := 0) rfl (by decide +kernel)) (
  zcons (zk_get (pc := 1) (ci := 5) (j := 2) rfl zinX5 (by decide) zw_68 (by decide +kernel)) (
  zcons (zk_iconst (pc := 4) (z := 5) (by decide) (by decide +kernel)) (
  zcons (zk_icge (pc := 5) (off := 43) (by decide) (by decide +kernel)) (
  zcons (zk_aload_n (pc := 8) (j := 0) rfl (by decide +kernel)) (
  zcons (zk_getr (pc := 9) (ci := 5) (j := 11) rfl zinX5 (by decide) zw_96 (by decide +kernel)) (
  zcons (zk_aload_n (pc := 12) (j := 0) rfl (by decide +kernel)) (
  zcons (zk_get (pc := 13) (ci := 5) (j := 2) rfl zinX5 (by decide) zw_68 (by decide +kernel)) (
  zcons (zk_iload_n (pc := 16) (j := 1) rfl (by decide +kernel)) (
  zcons (zk_iastore (pc := 17) (by decide +kernel)) (
  zcons (zk_aload_n (pc := 18) (j := 0) rfl (by decide +kernel)) (
  zcons (zk_getr (pc := 19) (ci := 5) (j := 12) rfl zinX5 (by decide) zw_98 (by decide +kernel)) (
  zcons (zk_aload_n (pc := 22) (j := 0) rfl (by decide +kernel)) (
  zcons (zk_get (pc := 23) (ci := 5) (j := 2) rfl zinX5 (by decide) zw_68 (by decide +kernel)) (
  zcons (zk_iload_n (pc := 26) (j := 2) rfl (by decide +kernel)) (
  zcons (zk_iastore (pc := 27) (by decide +kernel)) (
  zcons (zk_aload_n (pc := 28) (j := 0) rfl (by decide +kernel)) (
  zcons (zk_getr (pc := 29) (ci := 5) (j := 13) rfl zinX5 (by decide) zw_100 (by decide +kernel)) (
  zcons (zk_aload_n (pc := 32) (j := 0) rfl (by decide +kernel)) (
  zcons (zk_get (pc := 33) (ci := 5) (j := 2) rfl zinX5 (by decide) zw_68 (by decide +kernel)) (
  zcons (zk_iconst (pc := 36) (z := 0) (by decide) (by decide +kernel)) (
  zcons (zk_iastore (pc := 37) (by decide +kernel)) (
  zcons (zk_aload_n (pc := 38) (j := 0) rfl (by decide +kernel)) (
  zcons (zk_dup (pc := 39) (by decide +kernel)) (
  zcons (zk_get (pc := 40) (ci := 5) (j := 2) rfl zinX5 (by decide) zw_68 (by decide +kernel)) (
  zcons (zk_iconst (pc := 43) (z := 1) (by decide) (by decide +kernel)) (
  zcons (zk_iadd (pc := 44) (by decide +kernel)) (
  zcons (zk_put (pc := 45) (ci := 5) (j := 2) rfl zinX5 (by decide) zw_68 tyX5 tyX5_ok nmX5 rfl (by decide +kernel) (by decide +kernel)) (
  zcons (zk_retv (pc := 48) rfl (by decide +kernel)) (znil)))))))))))))))))))))))))))))
def tb_X5_become : List (Nat × ZP) := [(0, zo_al 0 1), (1, zo_al 1 2), (2, zo_get 5 0 5), (5, zo_put 5 0 8), (8, zo_al 0 9), (9, zo_al 1 10), (10, zo_get 5 1 13), (13, zo_put 5 1 16), (16, zo_al 0 17), (17, zo_al 1 18), (18, zo_get 5 2 21), (21, zo_put 5 2 24), (24, zo_al 0 25), (25, zo_al 1 26), (26, zo_get 5 3 29), (29, zo_put 5 3 32), (32, zo_al 0 33), (33, zo_al 1 34), (34, zo_get 5 4 37), (37, zo_put 5 4 40), (40, zo_al 0 41), (41, zo_al 1 42), (42, zo_get 5 5 45), (45, zo_put 5 5 48), (48, zo_al 0 49), (49, zo_al 1 50), (50, zo_get 5 6 53), (53, zo_put 5 6 56), (56, zo_al 0 57), (57, zo_al 1 58), (58, zo_get 5 7 61), (61, zo_put 5 7 64), (64, zo_al 1 65), (65, zo_getr 5 8 68), (68, zo_i 0 69), (69, zo_al 0 70), (70, zo_getr 5 8 73), (73, zo_i 0 74), (74, zo_i 10 76), (76, zo_cpy 79), (79, zo_al 1 80), (80, zo_getr 5 9 83), (83, zo_i 0 84), (84, zo_al 0 85), (85, zo_getr 5 9 88), (88, zo_i 0 89), (89, zo_i 10 91), (91, zo_cpy 94), (94, zo_al 1 95), (95, zo_getr 5 10 98), (98, zo_i 0 99), (99, zo_al 0 100), (100, zo_getr 5 10 103), (103, zo_i 0 104), (104, zo_i 10 106), (106, zo_cpy 109), (109, zo_al 1 110), (110, zo_getr 5 11 113), (113, zo_i 0 114), (114, zo_al 0 115), (115, zo_getr 5 11 118), (118, zo_i 0 119), (119, zo_i 5 120), (120, zo_cpy 123), (123, zo_al 1 124), (124, zo_getr 5 12 127), (127, zo_i 0 128), (128, zo_al 0 129), (129, zo_getr 5 12 132), (132, zo_i 0 133), (133, zo_i 5 134), (134, zo_cpy 137), (137, zo_al 1 138), (138, zo_getr 5 13 141), (141, zo_i 0 142), (142, zo_al 0 143), (143, zo_getr 5 13 146), (146, zo_i 0 147), (147, zo_i 5 148), (148, zo_cpy 151), (151, zo_retv)]
def cu_X5_become : List (Nat × List Bool) := []
set_option maxRecDepth 100000 in
set_option maxHeartbeats 4000000 in
theorem ok_X5_become : ∀ e ∈ tb_X5_become, ZOK zmt cX5_become RX5 0 e.1 e.2 :=
  zcons (zk_aload_n (pc := 0) (j := 0) rfl (by decide +kernel)) (
  zcons (zk_aload_n (pc := 1) (j := 1) rfl (by decide +kernel)) (
  zcons (zk_get (pc := 2) (ci := 5) (j := 0) rfl zinX5 (by decide) zw_62 (by decide +kernel)) (
  zcons (zk_put (pc := 5) (ci := 5) (j := 0) rfl zinX5 (by decide) zw_62 tyX5 tyX5_ok nmX5 rfl (by decide +kernel) (by decide +kernel)) (
  zcons (zk_aload_n (pc := 8) (j := 0) rfl (by decide +kernel)) (
  zcons (zk_aload_n (pc := 9) (j := 1) rfl (by decide +kernel)) (
  zcons (zk_get (pc := 10) (ci := 5) (j := 1) rfl zinX5 (by decide) zw_64 (by decide +kernel)) (
  zcons (zk_put (pc := 13) (ci := 5) (j := 1) rfl zinX5 (by decide) zw_64 tyX5 tyX5_ok nmX5 rfl (by decide +kernel) (by decide +kernel)) (
  zcons (zk_aload_n (pc := 16) (j := 0) rfl (by decide +kernel)) (
  zcons (zk_aload_n (pc := 17) (j := 1) rfl (by decide +kernel)) (
  zcons (zk_get (pc := 18) (ci := 5) (j := 2) rfl zinX5 (by decide) zw_68 (by decide +kernel)) (
  zcons (zk_put (pc := 21) (ci := 5) (j := 2) rfl zinX5 (by decide) zw_68 tyX5 tyX5_ok nmX5 rfl (by decide +kernel) (by decide +kernel)) (
  zcons (zk_aload_n (pc := 24) (j := 0) rfl (by decide +kernel)) (
  zcons (zk_aload_n (pc := 25) (j := 1) rfl (by decide +kernel)) (
  zcons (zk_get (pc := 26) (ci := 5) (j := 3) rfl zinX5 (by decide) zw_71 (by decide +kernel)) (
  zcons (zk_put (pc := 29) (ci := 5) (j := 3) rfl zinX5 (by decide) zw_71 tyX5 tyX5_ok nmX5 rfl (by decide +kernel) (by decide +kernel)) (
  zcons (zk_aload_n (pc := 32) (j := 0) rfl (by decide +kernel)) (
  zcons (zk_aload_n (pc := 33) (j := 1) rfl (by decide +kernel)) (
  zcons (zk_get (pc := 34) (ci := 5) (j := 4) rfl zinX5 (by decide) zw_75 (by decide +kernel)) (
  zcons (zk_put (pc := 37) (ci := 5) (j := 4) rfl zinX5 (by decide) zw_75 tyX5 tyX5_ok nmX5 rfl (by decide +kernel) (by decide +kernel)) (
  zcons (zk_aload_n (pc := 40) (j := 0) rfl (by decide +kernel)) (
  zcons (zk_aload_n (pc := 41) (j := 1) rfl (by decide +kernel)) (
  zcons (zk_get (pc := 42) (ci := 5) (j := 5) rfl zinX5 (by decide) zw_78 (by decide +kernel)) (
  zcons (zk_put (pc := 45) (ci := 5) (j := 5) rfl zinX5 (by decide) zw_78 tyX5 tyX5_ok nmX5 rfl (by decide +kernel) (by decide +kernel)) (
  zcons (zk_aload_n (pc := 48) (j := 0) rfl (by decide +kernel)) (
  zcons (zk_aload_n (pc := 49) (j := 1) rfl (by decide +kernel)) (
  zcons (zk_get (pc := 50) (ci := 5) (j := 6) rfl zinX5 (by decide) zw_82 (by decide +kernel)) (
  zcons (zk_put (pc := 53) (ci := 5) (j := 6) rfl zinX5 (by decide) zw_82 tyX5 tyX5_ok nmX5 rfl (by decide +kernel) (by decide +kernel)) (
  zcons (zk_aload_n (pc := 56) (j := 0) rfl (by decide +kernel)) (
  zcons (zk_aload_n (pc := 57) (j := 1) rfl (by decide +kernel)) (
  zcons (zk_get (pc := 58) (ci := 5) (j := 7) rfl zinX5 (by decide) zw_85 (by decide +kernel)) (
  zcons (zk_put (pc := 61) (ci := 5) (j := 7) rfl zinX5 (by decide) zw_85 tyX5 tyX5_ok nmX5 rfl (by decide +kernel) (by decide +kernel)) (
  zcons (zk_aload_n (pc := 64) (j := 1) rfl (by decide +kernel)) (
  zcons (zk_getr (pc := 65) (ci := 5) (j := 8) rfl zinX5 (by decide) zw_86 (by decide +kernel)) (
  zcons (zk_iconst (pc := 68) (z := 0) (by decide) (by decide +kernel)) (
  zcons (zk_aload_n (pc := 69) (j := 0) rfl (by decide +kernel)) (
  zcons (zk_getr (pc := 70) (ci := 5) (j := 8) rfl zinX5 (by decide) zw_86 (by decide +kernel)) (
  zcons (zk_iconst (pc := 73) (z := 0) (by decide) (by decide +kernel)) (
  zcons (zk_bipush (pc := 74) (z := 10) (by decide) (by decide +kernel)) (
  zcons (zk_cpy (pc := 76) zw_417 zw_327 zw_326 zw_11 (by decide +kernel)) (
  zcons (zk_aload_n (pc := 79) (j := 1) rfl (by decide +kernel)) (
  zcons (zk_getr (pc := 80) (ci := 5) (j := 9) rfl zinX5 (by decide) zw_89 (by decide +kernel)) (
  zcons (zk_iconst (pc := 83) (z := 0) (by decide) (by decide +kernel)) (
  zcons (zk_aload_n (pc := 84) (j := 0) rfl (by decide +kernel)) (
  zcons (zk_getr (pc := 85) (ci := 5) (j := 9) rfl zinX5 (by decide) zw_89 (by decide +kernel)) (
  zcons (zk_iconst (pc := 88) (z := 0) (by decide) (by decide +kernel)) (
  zcons (zk_bipush (pc := 89) (z := 10) (by decide) (by decide +kernel)) (
  zcons (zk_cpy (pc := 91) zw_417 zw_327 zw_326 zw_11 (by decide +kernel)) (
  zcons (zk_aload_n (pc := 94) (j := 1) rfl (by decide +kernel)) (
  zcons (zk_getr (pc := 95) (ci := 5) (j := 10) rfl zinX5 (by decide) zw_92 (by decide +kernel)) (
  zcons (zk_iconst (pc := 98) (z := 0) (by decide) (by decide +kernel)) (
  zcons (zk_aload_n (pc := 99) (j := 0) rfl (by decide +kernel)) (
  zcons (zk_getr (pc := 100) (ci := 5) (j := 10) rfl zinX5 (by decide) zw_92 (by decide +kernel)) (
  zcons (zk_iconst (pc := 103) (z := 0) (by decide) (by decide +kernel)) (
  zcons (zk_bipush (pc := 104) (z := 10) (by decide) (by decide +kernel)) (
  zcons (zk_cpy (pc := 106) zw_417 zw_327 zw_326 zw_11 (by decide +kernel)) (
  zcons (zk_aload_n (pc := 109) (j := 1) rfl (by decide +kernel)) (
  zcons (zk_getr (pc := 110) (ci := 5) (j := 11) rfl zinX5 (by decide) zw_96 (by decide +kernel)) (
  zcons (zk_iconst (pc := 113) (z := 0) (by decide) (by decide +kernel)) (
  zcons (zk_aload_n (pc := 114) (j := 0) rfl (by decide +kernel)) (
  zcons (zk_getr (pc := 115) (ci := 5) (j := 11) rfl zinX5 (by decide) zw_96 (by decide +kernel)) (
  zcons (zk_iconst (pc := 118) (z := 0) (by decide) (by decide +kernel)) (
  zcons (zk_iconst (pc := 119) (z := 5) (by decide) (by decide +kernel)) (
  zcons (zk_cpy (pc := 120) zw_417 zw_327 zw_326 zw_11 (by decide +kernel)) (
  zcons (zk_aload_n (pc := 123) (j := 1) rfl (by decide +kernel)) (
  zcons (zk_getr (pc := 124) (ci := 5) (j := 12) rfl zinX5 (by decide) zw_98 (by decide +kernel)) (
  zcons (zk_iconst (pc := 127) (z := 0) (by decide) (by decide +kernel)) (
  zcons (zk_aload_n (pc := 128) (j := 0) rfl (by decide +kernel)) (
  zcons (zk_getr (pc := 129) (ci := 5) (j := 12) rfl zinX5 (by decide) zw_98 (by decide +kernel)) (
  zcons (zk_iconst (pc := 132) (z := 0) (by decide) (by decide +kernel)) (
  zcons (zk_iconst (pc := 133) (z := 5) (by decide) (by decide +kernel)) (
  zcons (zk_cpy (pc := 134) zw_417 zw_327 zw_326 zw_11 (by decide +kernel)) (
  zcons (zk_aload_n (pc := 137) (j := 1) rfl (by decide +kernel)) (
  zcons (zk_getr (pc := 138) (ci := 5) (j := 13) rfl zinX5 (by decide) zw_100 (by decide +kernel)) (
  zcons (zk_iconst (pc := 141) (z := 0) (by decide) (by decide +kernel)) (
  zcons (zk_aload_n (pc := 142) (j := 0) rfl (by decide +kernel)) (
  zcons (zk_getr (pc := 143) (ci := 5) (j := 13) rfl zinX5 (by decide) zw_100 (by decide +kernel)) (
  zcons (zk_iconst (pc := 146) (z := 0) (by decide) (by decide +kernel)) (
  zcons (zk_iconst (pc := 147) (z := 5) (by decide) (by decide +kernel)) (
  zcons (zk_cpy (pc := 148) zw_417 zw_327 zw_326 zw_11 (by decide +kernel)) (
  zcons (zk_retv (pc := 151) rfl (by decide +kernel)) (znil)))))))))))))))))))))))))))))))))))))))))))))))))))))))))))))))))))))))))))))))))
def tb_X5_sell : List (Nat × ZP) := [(0, zo_al 0 1), (1, zo_getr 5 13 4), (4, zo_il 1 5), (5, zo_il 2 6), (6, zo_iast 7), (7, zo_al 0 8), (8, zo_dup 9), (9, zo_get 5 5 12), (12, zo_il 2 13), (13, zo_i (-1) 14), (14, zo_bin (· ^^^ ·) 15), (15, zo_bin (· &&& ·) 16), (16, zo_put 5 5 19), (19, zo_al 0 20), (20, zo_dup 21), (21, zo_get 5 4 24), (24, zo_il 3 25), (25, zo_bin (· + ·) 26), (26, zo_put 5 4 29), (29, zo_retv)]
def cu_X5_sell : List (Nat × List Bool) := []
set_option maxRecDepth 100000 in
set_option maxHeartbeats 4000000 in
theorem ok_X5_sell : ∀ e ∈ tb_X5_sell, ZOK zmt cX5_sell RX5 0 e.1 e.2 :=
  zcons (zk_aload_n (pc := 0) (j := 0) rfl (by decide +kernel)) (
  zcons (zk_getr (pc := 1) (ci := 5) (j := 13) rfl zinX5 (by decide) zw_100 (by decide +kernel)) (
  zcons (zk_iload_n (pc := 4) (j := 1) rfl (by decide +kernel)) (
  zcons (zk_iload_n (pc := 5) (j := 2) rfl (by decide +kernel)) (
  zcons (zk_iastore (pc := 6) (by decide +kernel)) (
  zcons (zk_aload_n (pc := 7) (j := 0) rfl (by decide +kernel)) (
  zcons (zk_dup (pc := 8) (by decide +kernel)) (
  zcons (zk_get (pc := 9) (ci := 5) (j := 5) rfl zinX5 (by decide) zw_78 (by decide +kernel)) (
  zcons (zk_iload_n (pc := 12) (j := 2) rfl (by decide +kernel)) (
  zcons (zk_iconst (pc := 13) (z := (-1)) (by decide) (by decide +kernel)) (
  zcons (zk_ixor (pc := 14) (by decide +kernel)) (
  zcons (zk_iand (pc := 15) (by decide +kernel)) (
  zcons (zk_put (pc := 16) (ci := 5) (j := 5) rfl zinX5 (by decide) zw_78 tyX5 tyX5_ok nmX5 rfl (by decide +kernel) (by decide +kernel)) (
  zcons (zk_aload_n (pc := 19) (j := 0) rfl (by decide +kernel)) (
  zcons (zk_dup (pc := 20) (by decide +kernel)) (
  zcons (zk_get (pc := 21) (ci := 5) (j := 4) rfl zinX5 (by decide) zw_75 (by decide +kernel)) (
  zcons (zk_iload_n (pc := 24) (j := 3) rfl (by decide +kernel)) (
  zcons (zk_iadd (pc := 25) (by decide +kernel)) (
  zcons (zk_put (pc := 26) (ci := 5) (j := 4) rfl zinX5 (by decide) zw_75 tyX5 tyX5_ok nmX5 rfl (by decide +kernel) (by decide +kernel)) (
  zcons (zk_retv (pc := 29) rfl (by decide +kernel)) (znil))))))))))))))))))))
def tb_X5_takeBack : List (Nat × ZP) := [(0, zo_al 0 1), (1, zo_dup 2), (2, zo_get 5 5 5), (5, zo_al 0 6), (6, zo_getr 5 13 9), (9, zo_il 1 10), (10, zo_iald 11), (11, zo_bin (· ||| ·) 12), (12, zo_put 5 5 15), (15, zo_al 0 16), (16, zo_getr 5 13 19), (19, zo_il 1 20), (20, zo_i 0 21), (21, zo_iast 22), (22, zo_retv)]
def cu_X5_takeBack : List (Nat × List Bool) := []
set_option maxRecDepth 100000 in
set_option maxHeartbeats 4000000 in
theorem ok_X5_takeBack : ∀ e ∈ tb_X5_takeBack, ZOK zmt cX5_takeBack RX5 0 e.1 e.2 :=
  zcons (zk_aload_n (pc := 0) (j := 0) rfl (by decide +kernel)) (
  zcons (zk_dup (pc := 1) (by decide +kernel)) (
  zcons (zk_get (pc := 2) (ci := 5) (j := 5) rfl zinX5 (by decide) zw_78 (by decide +kernel)) (
  zcons (zk_aload_n (pc := 5) (j := 0) rfl (by decide +kernel)) (
  zcons (zk_getr (pc := 6) (ci := 5) (j := 13) rfl zinX5 (by decide) zw_100 (by decide +kernel)) (
  zcons (zk_iload_n (pc := 9) (j := 1) rfl (by decide +kernel)) (
  zcons (zk_iaload (pc := 10) (by decide +kernel)) (
  zcons (zk_ior (pc := 11) (by decide +kernel)) (
  zcons (zk_put (pc := 12) (ci := 5) (j := 5) rfl zinX5 (by decide) zw_78 tyX5 tyX5_ok nmX5 rfl (by decide +kernel) (by decide +kernel)) (
  zcons (zk_aload_n (pc := 15) (j := 0) rfl (by decide +kernel)) (
  zcons (zk_getr (pc := 16) (ci := 5) (j := 13) rfl zinX5 (by decide) zw_100 (by decide +kernel)) (
  zcons (zk_iload_n (pc := 19) (j := 1) rfl (by decide +kernel)) (
  zcons (zk_iconst (pc := 20) (z := 0) (by decide) (by decide +kernel)) (
  zcons (zk_iastore (pc := 21) (by decide +kernel)) (
  zcons (zk_retv (pc := 22) rfl (by decide +kernel)) (znil)))))))))))))))
def tb_X5_lose : List (Nat × ZP) := [(0, zo_al 0 1), (1, zo_dup 2), (2, zo_get 5 5 5), (5, zo_i 1 6), (6, zo_il 1 7), (7, zo_bin zshl 8), (8, zo_i (-1) 9), (9, zo_bin (· ^^^ ·) 10), (10, zo_bin (· &&& ·) 11), (11, zo_put 5 5 14), (14, zo_al 0 15), (15, zo_dup 16), (16, zo_get 5 6 19), (19, zo_i 1 20), (20, zo_il 1 21), (21, zo_bin zshl 22), (22, zo_bin (· ||| ·) 23), (23, zo_put 5 6 26), (26, zo_retv)]
def cu_X5_lose : List (Nat × List Bool) := []
set_option maxRecDepth 100000 in
set_option maxHeartbeats 4000000 in
theorem ok_X5_lose : ∀ e ∈ tb_X5_lose, ZOK zmt cX5_lose RX5 0 e.1 e.2 :=
  zcons (zk_aload_n (pc := 0) (j := 0) rfl (by decide +kernel)) (
  zcons (zk_dup (pc := 1) (by decide +kernel)) (
  zcons (zk_get (pc := 2) (ci := 5) (j := 5) rfl zinX5 (by decide) zw_78 (by decide +kernel)) (
  zcons (zk_iconst (pc := 5) (z := 1) (by decide) (by decide +kernel)) (
  zcons (zk_iload_n (pc := 6) (j := 1) rfl (by decide +kernel)) (
  zcons (zk_ishl (pc := 7) (by decide +kernel)) (
  zcons (zk_iconst (pc := 8) (z := (-1)) (by decide) (by decide +kernel)) (
  zcons (zk_ixor (pc := 9) (by decide +kernel)) (
  zcons (zk_iand (pc := 10) (by decide +kernel)) (
  zcons (zk_put (pc := 11) (ci := 5) (j := 5) rfl zinX5 (by decide) zw_78 tyX5 tyX5_ok nmX5 rfl (by decide +kernel) (by decide +kernel)) (
  zcons (zk_aload_n (pc := 14) (j := 0) rfl (by decide +kernel)) (
  zcons (zk_dup (pc := 15) (by decide +kernel)) (
  zcons (zk_get (pc := 16) (ci := 5) (j := 6) rfl zinX5 (by decide) zw_82 (by decide +kernel)) (
  zcons (zk_iconst (pc := 19) (z := 1) (by decide) (by decide +kernel)) (
  zcons (zk_iload_n (pc := 20) (j := 1) rfl (by decide +kernel)) (
  zcons (zk_ishl (pc := 21) (by decide +kernel)) (
  zcons (zk_ior (pc := 22) (by decide +kernel)) (
  zcons (zk_put (pc := 23) (ci := 5) (j := 6) rfl zinX5 (by decide) zw_82 tyX5 tyX5_ok nmX5 rfl (by decide +kernel) (by decide +kernel)) (
  zcons (zk_retv (pc := 26) rfl (by decide +kernel)) (znil)))))))))))))))))))
def tb_X5_isOn : List (Nat × ZP) := [(0, zo_al 0 1), (1, zo_get 5 5 4), (4, zo_il 1 5), (5, zo_bin zshr 6), (6, zo_i 1 7), (7, zo_bin (· &&& ·) 8), (8, zo_ifeq 15 11), (11, zo_i 1 12), (12, zo_goto 16), (15, zo_i 0 16), (16, zo_retz)]
def cu_X5_isOn : List (Nat × List Bool) := []
set_option maxRecDepth 100000 in
set_option maxHeartbeats 4000000 in
theorem ok_X5_isOn : ∀ e ∈ tb_X5_isOn, ZOK zmt cX5_isOn RX5 3 e.1 e.2 :=
  zcons (zk_aload_n (pc := 0) (j := 0) rfl (by decide +kernel)) (
  zcons (zk_get (pc := 1) (ci := 5) (j := 5) rfl zinX5 (by decide) zw_78 (by decide +kernel)) (
  zcons (zk_iload_n (pc := 4) (j := 1) rfl (by decide +kernel)) (
  zcons (zk_ishr (pc := 5) (by decide +kernel)) (
  zcons (zk_iconst (pc := 6) (z := 1) (by decide) (by decide +kernel)) (
  zcons (zk_iand (pc := 7) (by decide +kernel)) (
  zcons (zk_ifeq (pc := 8) (off := 7) (by decide) (by decide +kernel)) (
  zcons (zk_iconst (pc := 11) (z := 1) (by decide) (by decide +kernel)) (
  zcons (zk_goto (pc := 12) (off := 4) (by decide) (by decide +kernel)) (
  zcons (zk_iconst (pc := 15) (z := 0) (by decide) (by decide +kernel)) (
  zcons (zk_retz (pc := 16) rfl (by decide +kernel)) (znil)))))))))))
def tb_X5_holds : List (Nat × ZP) := [(0, zo_il 1 1), (1, zo_al 0 2), (2, zo_get 5 5 5), (5, zo_i (-1) 6), (6, zo_bin (· ^^^ ·) 7), (7, zo_bin (· &&& ·) 8), (8, zo_ifne 15 11), (11, zo_i 1 12), (12, zo_goto 16), (15, zo_i 0 16), (16, zo_retz)]
def cu_X5_holds : List (Nat × List Bool) := []
set_option maxRecDepth 100000 in
set_option maxHeartbeats 4000000 in
theorem ok_X5_holds : ∀ e ∈ tb_X5_holds, ZOK zmt cX5_holds RX5 3 e.1 e.2 :=
  zcons (zk_iload_n (pc := 0) (j := 1) rfl (by decide +kernel)) (
  zcons (zk_aload_n (pc := 1) (j := 0) rfl (by decide +kernel)) (
  zcons (zk_get (pc := 2) (ci := 5) (j := 5) rfl zinX5 (by decide) zw_78 (by decide +kernel)) (
  zcons (zk_iconst (pc := 5) (z := (-1)) (by decide) (by decide +kernel)) (
  zcons (zk_ixor (pc := 6) (by decide +kernel)) (
  zcons (zk_iand (pc := 7) (by decide +kernel)) (
  zcons (zk_ifne (pc := 8) (off := 7) (by decide) (by decide +kernel)) (
  zcons (zk_iconst (pc := 11) (z := 1) (by decide) (by decide +kernel)) (
  zcons (zk_goto (pc := 12) (off := 4) (by decide) (by decide +kernel)) (
  zcons (zk_iconst (pc := 15) (z := 0) (by decide) (by decide +kernel)) (
  zcons (zk_retz (pc := 16) rfl (by decide +kernel)) (znil)))))))))))
def tb_X5_isServed : List (Nat × ZP) := [(0, zo_al 0 1), (1, zo_getr 5 13 4), (4, zo_il 1 5), (5, zo_iald 6), (6, zo_ifeq 13 9), (9, zo_i 1 10), (10, zo_goto 14), (13, zo_i 0 14), (14, zo_retz)]
def cu_X5_isServed : List (Nat × List Bool) := []
set_option maxRecDepth 100000 in
set_option maxHeartbeats 4000000 in
theorem ok_X5_isServed : ∀ e ∈ tb_X5_isServed, ZOK zmt cX5_isServed RX5 3 e.1 e.2 :=
  zcons (zk_aload_n (pc := 0) (j := 0) rfl (by decide +kernel)) (
  zcons (zk_getr (pc := 1) (ci := 5) (j := 13) rfl zinX5 (by decide) zw_100 (by decide +kernel)) (
  zcons (zk_iload_n (pc := 4) (j := 1) rfl (by decide +kernel)) (
  zcons (zk_iaload (pc := 5) (by decide +kernel)) (
  zcons (zk_ifeq (pc := 6) (off := 7) (by decide) (by decide +kernel)) (
  zcons (zk_iconst (pc := 9) (z := 1) (by decide) (by decide +kernel)) (
  zcons (zk_goto (pc := 10) (off := 4) (by decide) (by decide +kernel)) (
  zcons (zk_iconst (pc := 13) (z := 0) (by decide) (by decide +kernel)) (
  zcons (zk_retz (pc := 14) rfl (by decide +kernel)) (znil)))))))))
def tb_X5_suits : List (Nat × ZP) := [(0, zo_al 0 1), (1, zo_getr 5 11 4), (4, zo_il 1 5), (5, zo_iald 6), (6, zo_il 2 7), (7, zo_icgt 24 10), (10, zo_il 2 11), (11, zo_al 0 12), (12, zo_getr 5 12 15), (15, zo_il 1 16), (16, zo_iald 17), (17, zo_icgt 24 20), (20, zo_i 1 21), (21, zo_goto 25), (24, zo_i 0 25), (25, zo_retz)]
def cu_X5_suits : List (Nat × List Bool) := []
set_option maxRecDepth 100000 in
set_option maxHeartbeats 4000000 in
theorem ok_X5_suits : ∀ e ∈ tb_X5_suits, ZOK zmt cX5_suits RX5 3 e.1 e.2 :=
  zcons (zk_aload_n (pc := 0) (j := 0) rfl (by decide +kernel)) (
  zcons (zk_getr (pc := 1) (ci := 5) (j := 11) rfl zinX5 (by decide) zw_96 (by decide +kernel)) (
  zcons (zk_iload_n (pc := 4) (j := 1) rfl (by decide +kernel)) (
  zcons (zk_iaload (pc := 5) (by decide +kernel)) (
  zcons (zk_iload_n (pc := 6) (j := 2) rfl (by decide +kernel)) (
  zcons (zk_icgt (pc := 7) (off := 17) (by decide) (by decide +kernel)) (
  zcons (zk_iload_n (pc := 10) (j := 2) rfl (by decide +kernel)) (
  zcons (zk_aload_n (pc := 11) (j := 0) rfl (by decide +kernel)) (
  zcons (zk_getr (pc := 12) (ci := 5) (j := 12) rfl zinX5 (by decide) zw_98 (by decide +kernel)) (
  zcons (zk_iload_n (pc := 15) (j := 1) rfl (by decide +kernel)) (
  zcons (zk_iaload (pc := 16) (by decide +kernel)) (
  zcons (zk_icgt (pc := 17) (off := 7) (by decide) (by decide +kernel)) (
  zcons (zk_iconst (pc := 20) (z := 1) (by decide) (by decide +kernel)) (
  zcons (zk_goto (pc := 21) (off := 4) (by decide) (by decide +kernel)) (
  zcons (zk_iconst (pc := 24) (z := 0) (by decide) (by decide +kernel)) (
  zcons (zk_retz (pc := 25) rfl (by decide +kernel)) (znil))))))))))))))))
def tb_X5_served : List (Nat × ZP) := [(0, zo_i 0 1), (1, zo_is 1 2), (2, zo_i 0 3), (3, zo_is 2 4), (4, zo_il 2 5), (5, zo_al 0 6), (6, zo_get 5 2 9), (9, zo_icge 36 12), (12, zo_il 1 13), (13, zo_al 0 14), (14, zo_il 2 15), (15, zo_cvi 5 63 1 18), (18, zo_ifeq 27 21), (21, zo_i 1 22), (22, zo_il 2 23), (23, zo_bin zshl 24), (24, zo_goto 28), (27, zo_i 0 28), (28, zo_bin (· ||| ·) 29), (29, zo_is 1 30), (30, zo_inc 2 1 33), (33, zo_goto 4), (36, zo_il 1 37), (37, zo_reti)]
def cu_X5_served : List (Nat × List Bool) := [(4, [true, true, true])]
set_option maxRecDepth 100000 in
set_option maxHeartbeats 4000000 in
theorem ok_X5_served : ∀ e ∈ tb_X5_served, ZOK zmt cX5_served RX5 1 e.1 e.2 :=
  zcons (zk_iconst (pc := 0) (z := 0) (by decide) (by decide +kernel)) (
  zcons (zk_istore_n (pc := 1) (j := 1) rfl (by decide +kernel)) (
  zcons (zk_iconst (pc := 2) (z := 0) (by decide) (by decide +kernel)) (
  zcons (zk_istore_n (pc := 3) (j := 2) rfl (by decide +kernel)) (
  zcons (zk_iload_n (pc := 4) (j := 2) rfl (by decide +kernel)) (
  zcons (zk_aload_n (pc := 5) (j := 0) rfl (by decide +kernel)) (
  zcons (zk_get (pc := 6) (ci := 5) (j := 2) rfl zinX5 (by decide) zw_68 (by decide +kernel)) (
  zcons (zk_icge (pc := 9) (off := 27) (by decide) (by decide +kernel)) (
  zcons (zk_iload_n (pc := 12) (j := 1) rfl (by decide +kernel)) (
  zcons (zk_aload_n (pc := 13) (j := 0) rfl (by decide +kernel)) (
  zcons (zk_iload_n (pc := 14) (j := 2) rfl (by decide +kernel)) (
  zcons (zk_cvi (pc := 15) 63 rfl (ci := 5) rfl zw_559 zw_471 zsel_X5_isServed zds_X5_isServed (by decide) zw_472 zw_3 (by decide +kernel)) (
  zcons (zk_ifeq (pc := 18) (off := 9) (by decide) (by decide +kernel)) (
  zcons (zk_iconst (pc := 21) (z := 1) (by decide) (by decide +kernel)) (
  zcons (zk_iload_n (pc := 22) (j := 2) rfl (by decide +kernel)) (
  zcons (zk_ishl (pc := 23) (by decide +kernel)) (
  zcons (zk_goto (pc := 24) (off := 4) (by decide) (by decide +kernel)) (
  zcons (zk_iconst (pc := 27) (z := 0) (by decide) (by decide +kernel)) (
  zcons (zk_ior (pc := 28) (by decide +kernel)) (
  zcons (zk_istore_n (pc := 29) (j := 1) rfl (by decide +kernel)) (
  zcons (zk_iinc (pc := 30) (z := 1) (by decide) (by decide +kernel)) (
  zcons (zk_goto (pc := 33) (off := (-29)) (by decide) (by decide +kernel)) (
  zcons (zk_iload_n (pc := 36) (j := 1) rfl (by decide +kernel)) (
  zcons (zk_reti (pc := 37) rfl (by decide +kernel)) (znil))))))))))))))))))))))))
def tb_X5_howIs : List (Nat × ZP) := [(0, zo_al 0 1), (1, zo_il 1 2), (2, zo_cvi 5 61 1 5), (5, zo_ifeq 10 8), (8, zo_i 0 9), (9, zo_reti), (10, zo_al 0 11), (11, zo_get 5 6 14), (14, zo_il 1 15), (15, zo_bin zshr 16), (16, zo_i 1 17), (17, zo_bin (· &&& ·) 18), (18, zo_ifeq 25 21), (21, zo_i 2 22), (22, zo_goto 26), (25, zo_i 1 26), (26, zo_reti)]
def cu_X5_howIs : List (Nat × List Bool) := []
set_option maxRecDepth 100000 in
set_option maxHeartbeats 4000000 in
theorem ok_X5_howIs : ∀ e ∈ tb_X5_howIs, ZOK zmt cX5_howIs RX5 1 e.1 e.2 :=
  zcons (zk_aload_n (pc := 0) (j := 0) rfl (by decide +kernel)) (
  zcons (zk_iload_n (pc := 1) (j := 1) rfl (by decide +kernel)) (
  zcons (zk_cvi (pc := 2) 61 rfl (ci := 5) rfl zw_541 zw_511 zsel_X5_isOn zds_X5_isOn (by decide) zw_512 zw_3 (by decide +kernel)) (
  zcons (zk_ifeq (pc := 5) (off := 5) (by decide) (by decide +kernel)) (
  zcons (zk_iconst (pc := 8) (z := 0) (by decide) (by decide +kernel)) (
  zcons (zk_reti (pc := 9) rfl (by decide +kernel)) (
  zcons (zk_aload_n (pc := 10) (j := 0) rfl (by decide +kernel)) (
  zcons (zk_get (pc := 11) (ci := 5) (j := 6) rfl zinX5 (by decide) zw_82 (by decide +kernel)) (
  zcons (zk_iload_n (pc := 14) (j := 1) rfl (by decide +kernel)) (
  zcons (zk_ishr (pc := 15) (by decide +kernel)) (
  zcons (zk_iconst (pc := 16) (z := 1) (by decide) (by decide +kernel)) (
  zcons (zk_iand (pc := 17) (by decide +kernel)) (
  zcons (zk_ifeq (pc := 18) (off := 7) (by decide) (by decide +kernel)) (
  zcons (zk_iconst (pc := 21) (z := 2) (by decide) (by decide +kernel)) (
  zcons (zk_goto (pc := 22) (off := 4) (by decide) (by decide +kernel)) (
  zcons (zk_iconst (pc := 25) (z := 1) (by decide) (by decide +kernel)) (
  zcons (zk_reti (pc := 26) rfl (by decide +kernel)) (znil)))))))))))))))))
def tb_X5_ownerOf : List (Nat × ZP) := [(0, zo_i 0 1), (1, zo_is 2 2), (2, zo_il 2 3), (3, zo_al 0 4), (4, zo_get 5 2 7), (7, zo_icge 31 10), (10, zo_al 0 11), (11, zo_getr 5 13 14), (14, zo_il 2 15), (15, zo_iald 16), (16, zo_il 1 17), (17, zo_bin zshr 18), (18, zo_i 1 19), (19, zo_bin (· &&& ·) 20), (20, zo_ifeq 25 23), (23, zo_il 2 24), (24, zo_reti), (25, zo_inc 2 1 28), (28, zo_goto 2), (31, zo_i (-1000000) 33), (33, zo_reti)]
def cu_X5_ownerOf : List (Nat × List Bool) := [(2, [true, true, true])]
set_option maxRecDepth 100000 in
set_option maxHeartbeats 4000000 in
theorem ok_X5_ownerOf : ∀ e ∈ tb_X5_ownerOf, ZOK zmt cX5_ownerOf RX5 1 e.1 e.2 :=
  zcons (zk_iconst (pc := 0) (z := 0) (by decide) (by decide +kernel)) (
  zcons (zk_istore_n (pc := 1) (j := 2) rfl (by decide +kernel)) (
  zcons (zk_iload_n (pc := 2) (j := 2) rfl (by decide +kernel)) (
  zcons (zk_aload_n (pc := 3) (j := 0) rfl (by decide +kernel)) (
  zcons (zk_get (pc := 4) (ci := 5) (j := 2) rfl zinX5 (by decide) zw_68 (by decide +kernel)) (
  zcons (zk_icge (pc := 7) (off := 24) (by decide) (by decide +kernel)) (
  zcons (zk_aload_n (pc := 10) (j := 0) rfl (by decide +kernel)) (
  zcons (zk_getr (pc := 11) (ci := 5) (j := 13) rfl zinX5 (by decide) zw_100 (by decide +kernel)) (
  zcons (zk_iload_n (pc := 14) (j := 2) rfl (by decide +kernel)) (
  zcons (zk_iaload (pc := 15) (by decide +kernel)) (
  zcons (zk_iload_n (pc := 16) (j := 1) rfl (by decide +kernel)) (
  zcons (zk_ishr (pc := 17) (by decide +kernel)) (
  zcons (zk_iconst (pc := 18) (z := 1) (by decide) (by decide +kernel)) (
  zcons (zk_iand (pc := 19) (by decide +kernel)) (
  zcons (zk_ifeq (pc := 20) (off := 5) (by decide) (by decide +kernel)) (
  zcons (zk_iload_n (pc := 23) (j := 2) rfl (by decide +kernel)) (
  zcons (zk_reti (pc := 24) rfl (by decide +kernel)) (
  zcons (zk_iinc (pc := 25) (z := 1) (by decide) (by decide +kernel)) (
  zcons (zk_goto (pc := 28) (off := (-26)) (by decide) (by decide +kernel)) (
  zcons (zk_ldc (pc := 31) zw_546 (by decide +kernel)) (
  zcons (zk_reti (pc := 33) rfl (by decide +kernel)) (znil)))))))))))))))))))))
def tb_X5_paysOf : List (Nat × ZP) := [(0, zo_i 0 1), (1, zo_is 2 2), (2, zo_i 0 3), (3, zo_is 3 4), (4, zo_il 3 5), (5, zo_al 0 6), (6, zo_get 5 1 9), (9, zo_icge 39 12), (12, zo_il 2 13), (13, zo_il 1 14), (14, zo_il 3 15), (15, zo_bin zshr 16), (16, zo_i 1 17), (17, zo_bin (· &&& ·) 18), (18, zo_ifeq 30 21), (21, zo_al 0 22), (22, zo_il 3 23), (23, zo_il 1 24), (24, zo_cvi 5 69 2 27), (27, zo_goto 31), (30, zo_i 0 31), (31, zo_bin (· + ·) 32), (32, zo_is 2 33), (33, zo_inc 3 1 36), (36, zo_goto 4), (39, zo_il 2 40), (40, zo_reti)]
def cu_X5_paysOf : List (Nat × List Bool) := [(4, [true, true, true, true])]
set_option maxRecDepth 100000 in
set_option maxHeartbeats 4000000 in
theorem ok_X5_paysOf : ∀ e ∈ tb_X5_paysOf, ZOK zmt cX5_paysOf RX5 1 e.1 e.2 :=
  zcons (zk_iconst (pc := 0) (z := 0) (by decide) (by decide +kernel)) (
  zcons (zk_istore_n (pc := 1) (j := 2) rfl (by decide +kernel)) (
  zcons (zk_iconst (pc := 2) (z := 0) (by decide) (by decide +kernel)) (
  zcons (zk_istore_n (pc := 3) (j := 3) rfl (by decide +kernel)) (
  zcons (zk_iload_n (pc := 4) (j := 3) rfl (by decide +kernel)) (
  zcons (zk_aload_n (pc := 5) (j := 0) rfl (by decide +kernel)) (
  zcons (zk_get (pc := 6) (ci := 5) (j := 1) rfl zinX5 (by decide) zw_64 (by decide +kernel)) (
  zcons (zk_icge (pc := 9) (off := 30) (by decide) (by decide +kernel)) (
  zcons (zk_iload_n (pc := 12) (j := 2) rfl (by decide +kernel)) (
  zcons (zk_iload_n (pc := 13) (j := 1) rfl (by decide +kernel)) (
  zcons (zk_iload_n (pc := 14) (j := 3) rfl (by decide +kernel)) (
  zcons (zk_ishr (pc := 15) (by decide +kernel)) (
  zcons (zk_iconst (pc := 16) (z := 1) (by decide) (by decide +kernel)) (
  zcons (zk_iand (pc := 17) (by decide +kernel)) (
  zcons (zk_ifeq (pc := 18) (off := 12) (by decide) (by decide +kernel)) (
  zcons (zk_aload_n (pc := 21) (j := 0) rfl (by decide +kernel)) (
  zcons (zk_iload_n (pc := 22) (j := 3) rfl (by decide +kernel)) (
  zcons (zk_iload_n (pc := 23) (j := 1) rfl (by decide +kernel)) (
  zcons (zk_cvi (pc := 24) 69 rfl (ci := 5) rfl zw_477 zw_479 zsel_X5_payOfStamp zds_X5_payOfStamp (by decide) zw_480 zw_3 (by decide +kernel)) (
  zcons (zk_goto (pc := 27) (off := 4) (by decide) (by decide +kernel)) (
  zcons (zk_iconst (pc := 30) (z := 0) (by decide) (by decide +kernel)) (
  zcons (zk_iadd (pc := 31) (by decide +kernel)) (
  zcons (zk_istore_n (pc := 32) (j := 2) rfl (by decide +kernel)) (
  zcons (zk_iinc (pc := 33) (z := 1) (by decide) (by decide +kernel)) (
  zcons (zk_goto (pc := 36) (off := (-32)) (by decide) (by decide +kernel)) (
  zcons (zk_iload_n (pc := 39) (j := 2) rfl (by decide +kernel)) (
  zcons (zk_reti (pc := 40) rfl (by decide +kernel)) (znil)))))))))))))))))))))))))))
def tb_X5_payOfStamp : List (Nat × ZP) := [(0, zo_al 0 1), (1, zo_getr 5 9 4), (4, zo_il 1 5), (5, zo_iald 6), (6, zo_sw [(1, 40), (2, 47), (3, 59), (4, 68), (5, 92)] 118), (40, zo_al 0 41), (41, zo_getr 5 10 44), (44, zo_il 1 45), (45, zo_iald 46), (46, zo_reti), (47, zo_al 0 48), (48, zo_getr 5 10 51), (51, zo_il 1 52), (52, zo_iald 53), (53, zo_al 0 54), (54, zo_get 5 3 57), (57, zo_bin (· + ·) 58), (58, zo_reti), (59, zo_al 0 60), (60, zo_getr 5 10 63), (63, zo_il 1 64), (64, zo_iald 65), (65, zo_i 2 66), (66, zo_dv (· / ·) 67), (67, zo_reti), (68, zo_al 0 69), (69, zo_getr 5 10 72), (72, zo_il 1 73), (73, zo_iald 74), (74, zo_al 0 75), (75, zo_getr 5 8 78), (78, zo_il 1 79), (79, zo_iald 80), (80, zo_il 2 81), (81, zo_bin (· &&& ·) 82), (82, zo_al 0 83), (83, zo_get 5 7 86), (86, zo_bin (· &&& ·) 87), (87, zo_csi 233 1 90), (90, zo_bin (· * ·) 91), (91, zo_reti), (92, zo_al 0 93), (93, zo_getr 5 10 96), (96, zo_il 1 97), (97, zo_iald 98), (98, zo_al 0 99), (99, zo_getr 5 8 102), (102, zo_il 1 103), (103, zo_iald 104), (104, zo_il 2 105), (105, zo_bin (· &&& ·) 106), (106, zo_al 0 107), (107, zo_get 5 7 110), (110, zo_bin (· &&& ·) 111), (111, zo_csi 233 1 114), (114, zo_bin (· * ·) 115), (115, zo_i 5 116), (116, zo_bin (· + ·) 117), (117, zo_reti), (118, zo_i 0 119), (119, zo_reti)]
def cu_X5_payOfStamp : List (Nat × List Bool) := []
set_option maxRecDepth 100000 in
set_option maxHeartbeats 4000000 in
theorem ok_X5_payOfStamp : ∀ e ∈ tb_X5_payOfStamp, ZOK zmt cX5_payOfStamp RX5 1 e.1 e.2 :=
  zcons (zk_aload_n (pc := 0) (j := 0) rfl (by decide +kernel)) (
  zcons (zk_getr (pc := 1) (ci := 5) (j := 9) rfl zinX5 (by decide) zw_89 (by decide +kernel)) (
  zcons (zk_iload_n (pc := 4) (j := 1) rfl (by decide +kernel)) (
  zcons (zk_iaload (pc := 5) (by decide +kernel)) (
  zcons (zk_table (pc := 6) (dflt := 112) (lw := 1) (hi := 5) (offs := #[34, 41, 53, 62, 86]) (len := 34) (by decide +kernel) (by decide +kernel)) (
  zcons (zk_aload_n (pc := 40) (j := 0) rfl (by decide +kernel)) (
  zcons (zk_getr (pc := 41) (ci := 5) (j := 10) rfl zinX5 (by decide) zw_92 (by decide +kernel)) (
  zcons (zk_iload_n (pc := 44) (j := 1) rfl (by decide +kernel)) (
  zcons (zk_iaload (pc := 45) (by decide +kernel)) (
  zcons (zk_reti (pc := 46) rfl (by decide +kernel)) (
  zcons (zk_aload_n (pc := 47) (j := 0) rfl (by decide +kernel)) (
  zcons (zk_getr (pc := 48) (ci := 5) (j := 10) rfl zinX5 (by decide) zw_92 (by decide +kernel)) (
  zcons (zk_iload_n (pc := 51) (j := 1) rfl (by decide +kernel)) (
  zcons (zk_iaload (pc := 52) (by decide +kernel)) (
  zcons (zk_aload_n (pc := 53) (j := 0) rfl (by decide +kernel)) (
  zcons (zk_get (pc := 54) (ci := 5) (j := 3) rfl zinX5 (by decide) zw_71 (by decide +kernel)) (
  zcons (zk_iadd (pc := 57) (by decide +kernel)) (
  zcons (zk_reti (pc := 58) rfl (by decide +kernel)) (
  zcons (zk_aload_n (pc := 59) (j := 0) rfl (by decide +kernel)) (
  zcons (zk_getr (pc := 60) (ci := 5) (j := 10) rfl zinX5 (by decide) zw_92 (by decide +kernel)) (
  zcons (zk_iload_n (pc := 63) (j := 1) rfl (by decide +kernel)) (
  zcons (zk_iaload (pc := 64) (by decide +kernel)) (
  zcons (zk_iconst (pc := 65) (z := 2) (by decide) (by decide +kernel)) (
  zcons (zk_idiv (pc := 66) (by decide +kernel)) (
  zcons (zk_reti (pc := 67) rfl (by decide +kernel)) (
  zcons (zk_aload_n (pc := 68) (j := 0) rfl (by decide +kernel)) (
  zcons (zk_getr (pc := 69) (ci := 5) (j := 10) rfl zinX5 (by decide) zw_92 (by decide +kernel)) (
  zcons (zk_iload_n (pc := 72) (j := 1) rfl (by decide +kernel)) (
  zcons (zk_iaload (pc := 73) (by decide +kernel)) (
  zcons (zk_aload_n (pc := 74) (j := 0) rfl (by decide +kernel)) (
  zcons (zk_getr (pc := 75) (ci := 5) (j := 8) rfl zinX5 (by decide) zw_86 (by decide +kernel)) (
  zcons (zk_iload_n (pc := 78) (j := 1) rfl (by decide +kernel)) (
  zcons (zk_iaload (pc := 79) (by decide +kernel)) (
  zcons (zk_iload_n (pc := 80) (j := 2) rfl (by decide +kernel)) (
  zcons (zk_iand (pc := 81) (by decide +kernel)) (
  zcons (zk_aload_n (pc := 82) (j := 0) rfl (by decide +kernel)) (
  zcons (zk_get (pc := 83) (ci := 5) (j := 7) rfl zinX5 (by decide) zw_85 (by decide +kernel)) (
  zcons (zk_iand (pc := 86) (by decide +kernel)) (
  zcons (zk_csi (pc := 87) 233 rfl zw_481 zw_423 zds_J6_bitCount_0f7a4 (by decide) zw_424 zw_13 (by decide +kernel)) (
  zcons (zk_imul (pc := 90) (by decide +kernel)) (
  zcons (zk_reti (pc := 91) rfl (by decide +kernel)) (
  zcons (zk_aload_n (pc := 92) (j := 0) rfl (by decide +kernel)) (
  zcons (zk_getr (pc := 93) (ci := 5) (j := 10) rfl zinX5 (by decide) zw_92 (by decide +kernel)) (
  zcons (zk_iload_n (pc := 96) (j := 1) rfl (by decide +kernel)) (
  zcons (zk_iaload (pc := 97) (by decide +kernel)) (
  zcons (zk_aload_n (pc := 98) (j := 0) rfl (by decide +kernel)) (
  zcons (zk_getr (pc := 99) (ci := 5) (j := 8) rfl zinX5 (by decide) zw_86 (by decide +kernel)) (
  zcons (zk_iload_n (pc := 102) (j := 1) rfl (by decide +kernel)) (
  zcons (zk_iaload (pc := 103) (by decide +kernel)) (
  zcons (zk_iload_n (pc := 104) (j := 2) rfl (by decide +kernel)) (
  zcons (zk_iand (pc := 105) (by decide +kernel)) (
  zcons (zk_aload_n (pc := 106) (j := 0) rfl (by decide +kernel)) (
  zcons (zk_get (pc := 107) (ci := 5) (j := 7) rfl zinX5 (by decide) zw_85 (by decide +kernel)) (
  zcons (zk_iand (pc := 110) (by decide +kernel)) (
  zcons (zk_csi (pc := 111) 233 rfl zw_481 zw_423 zds_J6_bitCount_0f7a4 (by decide) zw_424 zw_13 (by decide +kernel)) (
  zcons (zk_imul (pc := 114) (by decide +kernel)) (
  zcons (zk_iconst (pc := 115) (z := 5) (by decide) (by decide +kernel)) (
  zcons (zk_iadd (pc := 116) (by decide +kernel)) (
  zcons (zk_reti (pc := 117) rfl (by decide +kernel)) (
  zcons (zk_iconst (pc := 118) (z := 0) (by decide) (by decide +kernel)) (
  zcons (zk_reti (pc := 119) rfl (by decide +kernel)) (znil)))))))))))))))))))))))))))))))))))))))))))))))))))))))))))))
def tb_X5_tearsOf : List (Nat × ZP) := [(0, zo_i 0 1), (1, zo_is 2 2), (2, zo_i 0 3), (3, zo_is 3 4), (4, zo_il 3 5), (5, zo_al 0 6), (6, zo_get 5 1 9), (9, zo_icge 51 12), (12, zo_il 2 13), (13, zo_il 1 14), (14, zo_il 3 15), (15, zo_bin zshr 16), (16, zo_i 1 17), (17, zo_bin (· &&& ·) 18), (18, zo_ifeq 42 21), (21, zo_al 0 22), (22, zo_getr 5 8 25), (25, zo_il 3 26), (26, zo_iald 27), (27, zo_al 0 28), (28, zo_get 5 5 31), (31, zo_bin (· &&& ·) 32), (32, zo_il 1 33), (33, zo_i (-1) 34), (34, zo_bin (· ^^^ ·) 35), (35, zo_bin (· &&& ·) 36), (36, zo_csi 233 1 39), (39, zo_goto 43), (42, zo_i 0 43), (43, zo_bin (· + ·) 44), (44, zo_is 2 45), (45, zo_inc 3 1 48), (48, zo_goto 4), (51, zo_il 2 52), (52, zo_reti)]
def cu_X5_tearsOf : List (Nat × List Bool) := [(4, [true, true, true, true])]
set_option maxRecDepth 100000 in
set_option maxHeartbeats 4000000 in
theorem ok_X5_tearsOf : ∀ e ∈ tb_X5_tearsOf, ZOK zmt cX5_tearsOf RX5 1 e.1 e.2 :=
  zcons (zk_iconst (pc := 0) (z := 0) (by decide) (by decide +kernel)) (
  zcons (zk_istore_n (pc := 1) (j := 2) rfl (by decide +kernel)) (
  zcons (zk_iconst (pc := 2) (z := 0) (by decide) (by decide +kernel)) (
  zcons (zk_istore_n (pc := 3) (j := 3) rfl (by decide +kernel)) (
  zcons (zk_iload_n (pc := 4) (j := 3) rfl (by decide +kernel)) (
  zcons (zk_aload_n (pc := 5) (j := 0) rfl (by decide +kernel)) (
  zcons (zk_get (pc := 6) (ci := 5) (j := 1) rfl zinX5 (by decide) zw_64 (by decide +kernel)) (
  zcons (zk_icge (pc := 9) (off := 42) (by decide) (by decide +kernel)) (
  zcons (zk_iload_n (pc := 12) (j := 2) rfl (by decide +kernel)) (
  zcons (zk_iload_n (pc := 13) (j := 1) rfl (by decide +kernel)) (
  zcons (zk_iload_n (pc := 14) (j := 3) rfl (by decide +kernel)) (
  zcons (zk_ishr (pc := 15) (by decide +kernel)) (
  zcons (zk_iconst (pc := 16) (z := 1) (by decide) (by decide +kernel)) (
  zcons (zk_iand (pc := 17) (by decide +kernel)) (
  zcons (zk_ifeq (pc := 18) (off := 24) (by decide) (by decide +kernel)) (
  zcons (zk_aload_n (pc := 21) (j := 0) rfl (by decide +kernel)) (
  zcons (zk_getr (pc := 22) (ci := 5) (j := 8) rfl zinX5 (by decide) zw_86 (by decide +kernel)) (
  zcons (zk_iload_n (pc := 25) (j := 3) rfl (by decide +kernel)) (
  zcons (zk_iaload (pc := 26) (by decide +kernel)) (
  zcons (zk_aload_n (pc := 27) (j := 0) rfl (by decide +kernel)) (
  zcons (zk_get (pc := 28) (ci := 5) (j := 5) rfl zinX5 (by decide) zw_78 (by decide +kernel)) (
  zcons (zk_iand (pc := 31) (by decide +kernel)) (
  zcons (zk_iload_n (pc := 32) (j := 1) rfl (by decide +kernel)) (
  zcons (zk_iconst (pc := 33) (z := (-1)) (by decide) (by decide +kernel)) (
  zcons (zk_ixor (pc := 34) (by decide +kernel)) (
  zcons (zk_iand (pc := 35) (by decide +kernel)) (
  zcons (zk_csi (pc := 36) 233 rfl zw_481 zw_423 zds_J6_bitCount_0f7a4 (by decide) zw_424 zw_13 (by decide +kernel)) (
  zcons (zk_goto (pc := 39) (off := 4) (by decide) (by decide +kernel)) (
  zcons (zk_iconst (pc := 42) (z := 0) (by decide) (by decide +kernel)) (
  zcons (zk_iadd (pc := 43) (by decide +kernel)) (
  zcons (zk_istore_n (pc := 44) (j := 2) rfl (by decide +kernel)) (
  zcons (zk_iinc (pc := 45) (z := 1) (by decide) (by decide +kernel)) (
  zcons (zk_goto (pc := 48) (off := (-44)) (by decide) (by decide +kernel)) (
  zcons (zk_iload_n (pc := 51) (j := 2) rfl (by decide +kernel)) (
  zcons (zk_reti (pc := 52) rfl (by decide +kernel)) (znil)))))))))))))))))))))))))))))))))))
def tb_X5_nextTo : List (Nat × ZP) := [(0, zo_i 0 1), (1, zo_is 2 2), (2, zo_i 0 3), (3, zo_is 3 4), (4, zo_il 3 5), (5, zo_al 0 6), (6, zo_get 5 1 9), (9, zo_icge 39 12), (12, zo_il 2 13), (13, zo_il 1 14), (14, zo_il 3 15), (15, zo_bin zshr 16), (16, zo_i 1 17), (17, zo_bin (· &&& ·) 18), (18, zo_ifeq 30 21), (21, zo_al 0 22), (22, zo_getr 5 8 25), (25, zo_il 3 26), (26, zo_iald 27), (27, zo_goto 31), (30, zo_i 0 31), (31, zo_bin (· ||| ·) 32), (32, zo_is 2 33), (33, zo_inc 3 1 36), (36, zo_goto 4), (39, zo_il 2 40), (40, zo_reti)]
def cu_X5_nextTo : List (Nat × List Bool) := [(4, [true, true, true, true])]
set_option maxRecDepth 100000 in
set_option maxHeartbeats 4000000 in
theorem ok_X5_nextTo : ∀ e ∈ tb_X5_nextTo, ZOK zmt cX5_nextTo RX5 1 e.1 e.2 :=
  zcons (zk_iconst (pc := 0) (z := 0) (by decide) (by decide +kernel)) (
  zcons (zk_istore_n (pc := 1) (j := 2) rfl (by decide +kernel)) (
  zcons (zk_iconst (pc := 2) (z := 0) (by decide) (by decide +kernel)) (
  zcons (zk_istore_n (pc := 3) (j := 3) rfl (by decide +kernel)) (
  zcons (zk_iload_n (pc := 4) (j := 3) rfl (by decide +kernel)) (
  zcons (zk_aload_n (pc := 5) (j := 0) rfl (by decide +kernel)) (
  zcons (zk_get (pc := 6) (ci := 5) (j := 1) rfl zinX5 (by decide) zw_64 (by decide +kernel)) (
  zcons (zk_icge (pc := 9) (off := 30) (by decide) (by decide +kernel)) (
  zcons (zk_iload_n (pc := 12) (j := 2) rfl (by decide +kernel)) (
  zcons (zk_iload_n (pc := 13) (j := 1) rfl (by decide +kernel)) (
  zcons (zk_iload_n (pc := 14) (j := 3) rfl (by decide +kernel)) (
  zcons (zk_ishr (pc := 15) (by decide +kernel)) (
  zcons (zk_iconst (pc := 16) (z := 1) (by decide) (by decide +kernel)) (
  zcons (zk_iand (pc := 17) (by decide +kernel)) (
  zcons (zk_ifeq (pc := 18) (off := 12) (by decide) (by decide +kernel)) (
  zcons (zk_aload_n (pc := 21) (j := 0) rfl (by decide +kernel)) (
  zcons (zk_getr (pc := 22) (ci := 5) (j := 8) rfl zinX5 (by decide) zw_86 (by decide +kernel)) (
  zcons (zk_iload_n (pc := 25) (j := 3) rfl (by decide +kernel)) (
  zcons (zk_iaload (pc := 26) (by decide +kernel)) (
  zcons (zk_goto (pc := 27) (off := 4) (by decide) (by decide +kernel)) (
  zcons (zk_iconst (pc := 30) (z := 0) (by decide) (by decide +kernel)) (
  zcons (zk_ior (pc := 31) (by decide +kernel)) (
  zcons (zk_istore_n (pc := 32) (j := 2) rfl (by decide +kernel)) (
  zcons (zk_iinc (pc := 33) (z := 1) (by decide) (by decide +kernel)) (
  zcons (zk_goto (pc := 36) (off := (-32)) (by decide) (by decide +kernel)) (
  zcons (zk_iload_n (pc := 39) (j := 2) rfl (by decide +kernel)) (
  zcons (zk_reti (pc := 40) rfl (by decide +kernel)) (znil)))))))))))))))))))))))))))
def tb_X5_partAround : List (Nat × ZP) := [(0, zo_il 1 1), (1, zo_is 3 2), (2, zo_i 0 3), (3, zo_is 4 5), (5, zo_il 4 7), (7, zo_i 10 9), (9, zo_icge 28 12), (12, zo_il 3 13), (13, zo_al 0 14), (14, zo_il 3 15), (15, zo_cvi 5 71 1 18), (18, zo_il 2 19), (19, zo_bin (· &&& ·) 20), (20, zo_bin (· ||| ·) 21), (21, zo_is 3 22), (22, zo_inc 4 1 25), (25, zo_goto 5), (28, zo_il 3 29), (29, zo_reti)]
def cu_X5_partAround : List (Nat × List Bool) := [(5, [true, false, true, true, true])]
set_option maxRecDepth 100000 in
set_option maxHeartbeats 4000000 in
theorem ok_X5_partAround : ∀ e ∈ tb_X5_partAround, ZOK zmt cX5_partAround RX5 1 e.1 e.2 :=
  zcons (zk_iload_n (pc := 0) (j := 1) rfl (by decide +kernel)) (
  zcons (zk_istore_n (pc := 1) (j := 3) rfl (by decide +kernel)) (
  zcons (zk_iconst (pc := 2) (z := 0) (by decide) (by decide +kernel)) (
  zcons (zk_istore (pc := 3) (by decide +kernel)) (
  zcons (zk_iload (pc := 5) (by decide +kernel)) (
  zcons (zk_bipush (pc := 7) (z := 10) (by decide) (by decide +kernel)) (
  zcons (zk_icge (pc := 9) (off := 19) (by decide) (by decide +kernel)) (
  zcons (zk_iload_n (pc := 12) (j := 3) rfl (by decide +kernel)) (
  zcons (zk_aload_n (pc := 13) (j := 0) rfl (by decide +kernel)) (
  zcons (zk_iload_n (pc := 14) (j := 3) rfl (by decide +kernel)) (
  zcons (zk_cvi (pc := 15) 71 rfl (ci := 5) rfl zw_575 zw_577 zsel_X5_nextTo zds_X5_nextTo (by decide) zw_578 zw_3 (by decide +kernel)) (
  zcons (zk_iload_n (pc := 18) (j := 2) rfl (by decide +kernel)) (
  zcons (zk_iand (pc := 19) (by decide +kernel)) (
  zcons (zk_ior (pc := 20) (by decide +kernel)) (
  zcons (zk_istore_n (pc := 21) (j := 3) rfl (by decide +kernel)) (
  zcons (zk_iinc (pc := 22) (z := 1) (by decide) (by decide +kernel)) (
  zcons (zk_goto (pc := 25) (off := (-20)) (by decide) (by decide +kernel)) (
  zcons (zk_iload_n (pc := 28) (j := 3) rfl (by decide +kernel)) (
  zcons (zk_reti (pc := 29) rfl (by decide +kernel)) (znil)))))))))))))))))))
def tb_X5_countParts : List (Nat × ZP) := [(0, zo_il 1 1), (1, zo_is 2 2), (2, zo_i 0 3), (3, zo_is 3 4), (4, zo_il 3 5), (5, zo_i 10 7), (7, zo_icge 34 10), (10, zo_il 2 11), (11, zo_ifeq 34 14), (14, zo_il 2 15), (15, zo_al 0 16), (16, zo_il 2 17), (17, zo_csi 231 1 20), (20, zo_il 1 21), (21, zo_cvi 5 72 2 24), (24, zo_i (-1) 25), (25, zo_bin (· ^^^ ·) 26), (26, zo_bin (· &&& ·) 27), (27, zo_is 2 28), (28, zo_inc 3 1 31), (31, zo_goto 4), (34, zo_il 3 35), (35, zo_reti)]
def cu_X5_countParts : List (Nat × List Bool) := [(4, [true, true, true, true])]
set_option maxRecDepth 100000 in
set_option maxHeartbeats 4000000 in
theorem ok_X5_countParts : ∀ e ∈ tb_X5_countParts, ZOK zmt cX5_countParts RX5 1 e.1 e.2 :=
  zcons (zk_iload_n (pc := 0) (j := 1) rfl (by decide +kernel)) (
  zcons (zk_istore_n (pc := 1) (j := 2) rfl (by decide +kernel)) (
  zcons (zk_iconst (pc := 2) (z := 0) (by decide) (by decide +kernel)) (
  zcons (zk_istore_n (pc := 3) (j := 3) rfl (by decide +kernel)) (
  zcons (zk_iload_n (pc := 4) (j := 3) rfl (by decide +kernel)) (
  zcons (zk_bipush (pc := 5) (z := 10) (by decide) (by decide +kernel)) (
  zcons (zk_icge (pc := 7) (off := 27) (by decide) (by decide +kernel)) (
  zcons (zk_iload_n (pc := 10) (j := 2) rfl (by decide +kernel)) (
  zcons (zk_ifeq (pc := 11) (off := 23) (by decide) (by decide +kernel)) (
  zcons (zk_iload_n (pc := 14) (j := 2) rfl (by decide +kernel)) (
  zcons (zk_aload_n (pc := 15) (j := 0) rfl (by decide +kernel)) (
  zcons (zk_iload_n (pc := 16) (j := 2) rfl (by decide +kernel)) (
  zcons (zk_csi (pc := 17) 231 rfl zw_568 zw_569 zds_J6_lowestOneBit_0f7a4 (by decide) zw_570 zw_13 (by decide +kernel)) (
  zcons (zk_iload_n (pc := 20) (j := 1) rfl (by decide +kernel)) (
  zcons (zk_cvi (pc := 21) 72 rfl (ci := 5) rfl zw_571 zw_573 zsel_X5_partAround zds_X5_partAround (by decide) zw_574 zw_3 (by decide +kernel)) (
  zcons (zk_iconst (pc := 24) (z := (-1)) (by decide) (by decide +kernel)) (
  zcons (zk_ixor (pc := 25) (by decide +kernel)) (
  zcons (zk_iand (pc := 26) (by decide +kernel)) (
  zcons (zk_istore_n (pc := 27) (j := 2) rfl (by decide +kernel)) (
  zcons (zk_iinc (pc := 28) (z := 1) (by decide) (by decide +kernel)) (
  zcons (zk_goto (pc := 31) (off := (-27)) (by decide) (by decide +kernel)) (
  zcons (zk_iload_n (pc := 34) (j := 3) rfl (by decide +kernel)) (
  zcons (zk_reti (pc := 35) rfl (by decide +kernel)) (znil)))))))))))))))))))))))
def tb_X5_partNumber : List (Nat × ZP) := [(0, zo_al 0 1), (1, zo_get 5 5 4), (4, zo_is 2 5), (5, zo_i 0 6), (6, zo_is 3 7), (7, zo_il 3 8), (8, zo_i 10 10), (10, zo_icge 52 13), (13, zo_il 2 14), (14, zo_ifeq 52 17), (17, zo_al 0 18), (18, zo_il 2 19), (19, zo_csi 231 1 22), (22, zo_al 0 23), (23, zo_get 5 5 26), (26, zo_cvi 5 72 2 29), (29, zo_is 4 31), (31, zo_il 3 32), (32, zo_il 1 33), (33, zo_icne 39 36), (36, zo_il 4 38), (38, zo_reti), (39, zo_il 2 40), (40, zo_il 4 42), (42, zo_i (-1) 43), (43, zo_bin (· ^^^ ·) 44), (44, zo_bin (· &&& ·) 45), (45, zo_is 2 46), (46, zo_inc 3 1 49), (49, zo_goto 7), (52, zo_i (-1000000) 54), (54, zo_reti)]
def cu_X5_partNumber : List (Nat × List Bool) := [(7, [true, true, true, true, false])]
set_option maxRecDepth 100000 in
set_option maxHeartbeats 4000000 in
theorem ok_X5_partNumber : ∀ e ∈ tb_X5_partNumber, ZOK zmt cX5_partNumber RX5 1 e.1 e.2 :=
  zcons (zk_aload_n (pc := 0) (j := 0) rfl (by decide +kernel)) (
  zcons (zk_get (pc := 1) (ci := 5) (j := 5) rfl zinX5 (by decide) zw_78 (by decide +kernel)) (
  zcons (zk_istore_n (pc := 4) (j := 2) rfl (by decide +kernel)) (
  zcons (zk_iconst (pc := 5) (z := 0) (by decide) (by decide +kernel)) (
  zcons (zk_istore_n (pc := 6) (j := 3) rfl (by decide +kernel)) (
  zcons (zk_iload_n (pc := 7) (j := 3) rfl (by decide +kernel)) (
  zcons (zk_bipush (pc := 8) (z := 10) (by decide) (by decide +kernel)) (
  zcons (zk_icge (pc := 10) (off := 42) (by decide) (by decide +kernel)) (
  zcons (zk_iload_n (pc := 13) (j := 2) rfl (by decide +kernel)) (
  zcons (zk_ifeq (pc := 14) (off := 38) (by decide) (by decide +kernel)) (
  zcons (zk_aload_n (pc := 17) (j := 0) rfl (by decide +kernel)) (
  zcons (zk_iload_n (pc := 18) (j := 2) rfl (by decide +kernel)) (
  zcons (zk_csi (pc := 19) 231 rfl zw_568 zw_569 zds_J6_lowestOneBit_0f7a4 (by decide) zw_570 zw_13 (by decide +kernel)) (
  zcons (zk_aload_n (pc := 22) (j := 0) rfl (by decide +kernel)) (
  zcons (zk_get (pc := 23) (ci := 5) (j := 5) rfl zinX5 (by decide) zw_78 (by decide +kernel)) (
  zcons (zk_cvi (pc := 26) 72 rfl (ci := 5) rfl zw_571 zw_573 zsel_X5_partAround zds_X5_partAround (by decide) zw_574 zw_3 (by decide +kernel)) (
  zcons (zk_istore (pc := 29) (by decide +kernel)) (
  zcons (zk_iload_n (pc := 31) (j := 3) rfl (by decide +kernel)) (
  zcons (zk_iload_n (pc := 32) (j := 1) rfl (by decide +kernel)) (
  zcons (zk_icne (pc := 33) (off := 6) (by decide) (by decide +kernel)) (
  zcons (zk_iload (pc := 36) (by decide +kernel)) (
  zcons (zk_reti (pc := 38) rfl (by decide +kernel)) (
  zcons (zk_iload_n (pc := 39) (j := 2) rfl (by decide +kernel)) (
  zcons (zk_iload (pc := 40) (by decide +kernel)) (
  zcons (zk_iconst (pc := 42) (z := (-1)) (by decide) (by decide +kernel)) (
  zcons (zk_ixor (pc := 43) (by decide +kernel)) (
  zcons (zk_iand (pc := 44) (by decide +kernel)) (
  zcons (zk_istore_n (pc := 45) (j := 2) rfl (by decide +kernel)) (
  zcons (zk_iinc (pc := 46) (z := 1) (by decide) (by decide +kernel)) (
  zcons (zk_goto (pc := 49) (off := (-42)) (by decide) (by decide +kernel)) (
  zcons (zk_ldc (pc := 52) zw_546 (by decide +kernel)) (
  zcons (zk_reti (pc := 54) rfl (by decide +kernel)) (znil))))))))))))))))))))))))))))))))
def tb_X5_stepsBetween : List (Nat × ZP) := [(0, zo_i 1 1), (1, zo_il 2 2), (2, zo_bin zshl 3), (3, zo_is 3 4), (4, zo_i 0 5), (5, zo_is 4 7), (7, zo_il 4 9), (9, zo_i 10 11), (11, zo_icge 44 14), (14, zo_il 3 15), (15, zo_il 1 16), (16, zo_bin zshr 17), (17, zo_i 1 18), (18, zo_bin (· &&& ·) 19), (19, zo_ifeq 25 22), (22, zo_il 4 24), (24, zo_reti), (25, zo_il 3 26), (26, zo_al 0 27), (27, zo_il 3 28), (28, zo_cvi 5 71 1 31), (31, zo_al 0 32), (32, zo_get 5 5 35), (35, zo_bin (· &&& ·) 36), (36, zo_bin (· ||| ·) 37), (37, zo_is 3 38), (38, zo_inc 4 1 41), (41, zo_goto 7), (44, zo_i (-1000000) 46), (46, zo_reti)]
def cu_X5_stepsBetween : List (Nat × List Bool) := [(7, [true, true, false, true, true])]
set_option maxRecDepth 100000 in
set_option maxHeartbeats 4000000 in
theorem ok_X5_stepsBetween : ∀ e ∈ tb_X5_stepsBetween, ZOK zmt cX5_stepsBetween RX5 1 e.1 e.2 :=
  zcons (zk_iconst (pc := 0) (z := 1) (by decide) (by decide +kernel)) (
  zcons (zk_iload_n (pc := 1) (j := 2) rfl (by decide +kernel)) (
  zcons (zk_ishl (pc := 2) (by decide +kernel)) (
  zcons (zk_istore_n (pc := 3) (j := 3) rfl (by decide +kernel)) (
  zcons (zk_iconst (pc := 4) (z := 0) (by decide) (by decide +kernel)) (
  zcons (zk_istore (pc := 5) (by decide +kernel)) (
  zcons (zk_iload (pc := 7) (by decide +kernel)) (
  zcons (zk_bipush (pc := 9) (z := 10) (by decide) (by decide +kernel)) (
  zcons (zk_icge (pc := 11) (off := 33) (by decide) (by decide +kernel)) (
  zcons (zk_iload_n (pc := 14) (j := 3) rfl (by decide +kernel)) (
  zcons (zk_iload_n (pc := 15) (j := 1) rfl (by decide +kernel)) (
  zcons (zk_ishr (pc := 16) (by decide +kernel)) (
  zcons (zk_iconst (pc := 17) (z := 1) (by decide) (by decide +kernel)) (
  zcons (zk_iand (pc := 18) (by decide +kernel)) (
  zcons (zk_ifeq (pc := 19) (off := 6) (by decide) (by decide +kernel)) (
  zcons (zk_iload (pc := 22) (by decide +kernel)) (
  zcons (zk_reti (pc := 24) rfl (by decide +kernel)) (
  zcons (zk_iload_n (pc := 25) (j := 3) rfl (by decide +kernel)) (
  zcons (zk_aload_n (pc := 26) (j := 0) rfl (by decide +kernel)) (
  zcons (zk_iload_n (pc := 27) (j := 3) rfl (by decide +kernel)) (
  zcons (zk_cvi (pc := 28) 71 rfl (ci := 5) rfl zw_575 zw_577 zsel_X5_nextTo zds_X5_nextTo (by decide) zw_578 zw_3 (by decide +kernel)) (
  zcons (zk_aload_n (pc := 31) (j := 0) rfl (by decide +kernel)) (
  zcons (zk_get (pc := 32) (ci := 5) (j := 5) rfl zinX5 (by decide) zw_78 (by decide +kernel)) (
  zcons (zk_iand (pc := 35) (by decide +kernel)) (
  zcons (zk_ior (pc := 36) (by decide +kernel)) (
  zcons (zk_istore_n (pc := 37) (j := 3) rfl (by decide +kernel)) (
  zcons (zk_iinc (pc := 38) (z := 1) (by decide) (by decide +kernel)) (
  zcons (zk_goto (pc := 41) (off := (-34)) (by decide) (by decide +kernel)) (
  zcons (zk_ldc (pc := 44) zw_546 (by decide +kernel)) (
  zcons (zk_reti (pc := 46) rfl (by decide +kernel)) (znil))))))))))))))))))))))))))))))
def tb_X5_firstStep : List (Nat × ZP) := [(0, zo_al 0 1), (1, zo_il 1 2), (2, zo_il 2 3), (3, zo_cvi 5 75 2 6), (6, zo_is 3 7), (7, zo_i 0 8), (8, zo_is 4 10), (10, zo_il 3 11), (11, zo_ifle 76 14), (14, zo_il 4 16), (16, zo_al 0 17), (17, zo_get 5 1 20), (20, zo_icge 76 23), (23, zo_al 0 24), (24, zo_getr 5 8 27), (27, zo_il 1 28), (28, zo_iald 29), (29, zo_al 0 30), (30, zo_get 5 5 33), (33, zo_bin (· &&& ·) 34), (34, zo_i 1 35), (35, zo_il 4 37), (37, zo_bin zshl 38), (38, zo_bin (· &&& ·) 39), (39, zo_ifeq 46 42), (42, zo_i 1 43), (43, zo_goto 47), (46, zo_i 0 47), (47, zo_is 5 49), (49, zo_il 5 51), (51, zo_ifeq 70 54), (54, zo_al 0 55), (55, zo_il 4 57), (57, zo_il 2 58), (58, zo_cvi 5 75 2 61), (61, zo_il 3 62), (62, zo_i 1 63), (63, zo_bin (· - ·) 64), (64, zo_icne 70 67), (67, zo_il 4 69), (69, zo_reti), (70, zo_inc 4 1 73), (73, zo_goto 10), (76, zo_i (-1000000) 78), (78, zo_reti)]
def cu_X5_firstStep : List (Nat × List Bool) := [(10, [true, true, true, true, true, false])]
set_option maxRecDepth 100000 in
set_option maxHeartbeats 4000000 in
theorem ok_X5_firstStep : ∀ e ∈ tb_X5_firstStep, ZOK zmt cX5_firstStep RX5 1 e.1 e.2 :=
  zcons (zk_aload_n (pc := 0) (j := 0) rfl (by decide +kernel)) (
  zcons (zk_iload_n (pc := 1) (j := 1) rfl (by decide +kernel)) (
  zcons (zk_iload_n (pc := 2) (j := 2) rfl (by decide +kernel)) (
  zcons (zk_cvi (pc := 3) 75 rfl (ci := 5) rfl zw_749 zw_743 zsel_X5_stepsBetween zds_X5_stepsBetween (by decide) zw_744 zw_3 (by decide +kernel)) (
  zcons (zk_istore_n (pc := 6) (j := 3) rfl (by decide +kernel)) (
  zcons (zk_iconst (pc := 7) (z := 0) (by decide) (by decide +kernel)) (
  zcons (zk_istore (pc := 8) (by decide +kernel)) (
  zcons (zk_iload_n (pc := 10) (j := 3) rfl (by decide +kernel)) (
  zcons (zk_ifle (pc := 11) (off := 65) (by decide) (by decide +kernel)) (
  zcons (zk_iload (pc := 14) (by decide +kernel)) (
  zcons (zk_aload_n (pc := 16) (j := 0) rfl (by decide +kernel)) (
  zcons (zk_get (pc := 17) (ci := 5) (j := 1) rfl zinX5 (by decide) zw_64 (by decide +kernel)) (
  zcons (zk_icge (pc := 20) (off := 56) (by decide) (by decide +kernel)) (
  zcons (zk_aload_n (pc := 23) (j := 0) rfl (by decide +kernel)) (
  zcons (zk_getr (pc := 24) (ci := 5) (j := 8) rfl zinX5 (by decide) zw_86 (by decide +kernel)) (
  zcons (zk_iload_n (pc := 27) (j := 1) rfl (by decide +kernel)) (
  zcons (zk_iaload (pc := 28) (by decide +kernel)) (
  zcons (zk_aload_n (pc := 29) (j := 0) rfl (by decide +kernel)) (
  zcons (zk_get (pc := 30) (ci := 5) (j := 5) rfl zinX5 (by decide) zw_78 (by decide +kernel)) (
  zcons (zk_iand (pc := 33) (by decide +kernel)) (
  zcons (zk_iconst (pc := 34) (z := 1) (by decide) (by decide +kernel)) (
  zcons (zk_iload (pc := 35) (by decide +kernel)) (
  zcons (zk_ishl (pc := 37) (by decide +kernel)) (
  zcons (zk_iand (pc := 38) (by decide +kernel)) (
  zcons (zk_ifeq (pc := 39) (off := 7) (by decide) (by decide +kernel)) (
  zcons (zk_iconst (pc := 42) (z := 1) (by decide) (by decide +kernel)) (
  zcons (zk_goto (pc := 43) (off := 4) (by decide) (by decide +kernel)) (
  zcons (zk_iconst (pc := 46) (z := 0) (by decide) (by decide +kernel)) (
  zcons (zk_istore (pc := 47) (by decide +kernel)) (
  zcons (zk_iload (pc := 49) (by decide +kernel)) (
  zcons (zk_ifeq (pc := 51) (off := 19) (by decide) (by decide +kernel)) (
  zcons (zk_aload_n (pc := 54) (j := 0) rfl (by decide +kernel)) (
  zcons (zk_iload (pc := 55) (by decide +kernel)) (
  zcons (zk_iload_n (pc := 57) (j := 2) rfl (by decide +kernel)) (
  zcons (zk_cvi (pc := 58) 75 rfl (ci := 5) rfl zw_749 zw_743 zsel_X5_stepsBetween zds_X5_stepsBetween (by decide) zw_744 zw_3 (by decide +kernel)) (
  zcons (zk_iload_n (pc := 61) (j := 3) rfl (by decide +kernel)) (
  zcons (zk_iconst (pc := 62) (z := 1) (by decide) (by decide +kernel)) (
  zcons (zk_isub (pc := 63) (by decide +kernel)) (
  zcons (zk_icne (pc := 64) (off := 6) (by decide) (by decide +kernel)) (
  zcons (zk_iload (pc := 67) (by decide +kernel)) (
  zcons (zk_reti (pc := 69) rfl (by decide +kernel)) (
  zcons (zk_iinc (pc := 70) (z := 1) (by decide) (by decide +kernel)) (
  zcons (zk_goto (pc := 73) (off := (-63)) (by decide) (by decide +kernel)) (
  zcons (zk_ldc (pc := 76) zw_546 (by decide +kernel)) (
  zcons (zk_reti (pc := 78) rfl (by decide +kernel)) (znil)))))))))))))))))))))))))))))))))))))))))))))
def tb_X6_takeCells : List (Nat × ZP) := [(0, zo_i 0 1), (1, zo_is 5 3), (3, zo_al 0 4), (4, zo_i 0 5), (5, zo_put 6 2 8), (8, zo_i 0 9), (9, zo_is 6 11), (11, zo_il 6 13), (13, zo_il 3 14), (14, zo_icge 91 17), (17, zo_il 6 19), (19, zo_i 10 21), (21, zo_icge 91 24), (24, zo_al 1 25), (25, zo_getr 4 0 28), (28, zo_il 2 29), (29, zo_il 6 31), (31, zo_bin (· + ·) 32), (32, zo_iald 33), (33, zo_is 7 35), (35, zo_il 7 37), (37, zo_iflt 57 40), (40, zo_il 7 42), (42, zo_il 4 44), (44, zo_icge 57 47), (47, zo_il 5 49), (49, zo_il 7 51), (51, zo_bin zshr 52), (52, zo_i 1 53), (53, zo_bin (· &&& ·) 54), (54, zo_ifeq 59 57), (57, zo_i 0 58), (58, zo_retz), (59, zo_il 5 61), (61, zo_i 1 62), (62, zo_il 7 64), (64, zo_bin zshl 65), (65, zo_bin (· ||| ·) 66), (66, zo_is 5 68), (68, zo_al 0 69), (69, zo_getr 6 0 72), (72, zo_il 6 74), (74, zo_il 7 76), (76, zo_iast 77), (77, zo_al 0 78), (78, zo_il 6 80), (80, zo_i 1 81), (81, zo_bin (· + ·) 82), (82, zo_put 6 2 85), (85, zo_inc 6 1 88), (88, zo_goto 11), (91, zo_i 1 92), (92, zo_retz)]
def cu_X6_takeCells : List (Nat × List Bool) := [(11, [true, true, true, true, true, true, true, false])]
set_option maxRecDepth 100000 in
set_option maxHeartbeats 4000000 in
theorem ok_X6_takeCells : ∀ e ∈ tb_X6_takeCells, ZOK zmt cX6_takeCells RX6 3 e.1 e.2 :=
  zcons (zk_iconst (pc := 0) (z := 0) (by decide) (by decide +kernel)) (
  zcons (zk_istore (pc := 1) (by decide +kernel)) (
  zcons (zk_aload_n (pc := 3) (j := 0) rfl (by decide +kernel)) (
  zcons (zk_iconst (pc := 4) (z := 0) (by decide) (by decide +kernel)) (
  zcons (zk_put (pc := 5) (ci := 6) (j := 2) rfl zinX6 (by decide) zw_223 tyX6 tyX6_ok nmX6 rfl (by decide +kernel) (by decide +kernel)) (
  zcons (zk_iconst (pc := 8) (z := 0) (by decide) (by decide +kernel)) (
  zcons (zk_istore (pc := 9) (by decide +kernel)) (
  zcons (zk_iload (pc := 11) (by decide +kernel)) (
  zcons (zk_iload_n (pc := 13) (j := 3) rfl (by decide +kernel)) (
  zcons (zk_icge (pc := 14) (off := 77) (by decide) (by decide +kernel)) (
  zcons (zk_iload (pc := 17) (by decide +kernel)) (
  zcons (zk_bipush (pc := 19) (z := 10) (by decide) (by decide +kernel)) (
  zcons (zk_icge (pc := 21) (off := 70) (by decide) (by decide +kernel)) (
  zcons (zk_aload_n (pc := 24) (j := 1) rfl (by decide +kernel)) (
  zcons (zk_getrN (pc := 25) (ci := 4) (j := 0) rfl zinX4 (by decide) zw_237 (by decide +kernel)) (
  zcons (zk_iload_n (pc := 28) (j := 2) rfl (by decide +kernel)) (
  zcons (zk_iload (pc := 29) (by decide +kernel)) (
  zcons (zk_iadd (pc := 31) (by decide +kernel)) (
  zcons (zk_iaload (pc := 32) (by decide +kernel)) (
  zcons (zk_istore (pc := 33) (by decide +kernel)) (
  zcons (zk_iload (pc := 35) (by decide +kernel)) (
  zcons (zk_iflt (pc := 37) (off := 20) (by decide) (by decide +kernel)) (
  zcons (zk_iload (pc := 40) (by decide +kernel)) (
  zcons (zk_iload (pc := 42) (by decide +kernel)) (
  zcons (zk_icge (pc := 44) (off := 13) (by decide) (by decide +kernel)) (
  zcons (zk_iload (pc := 47) (by decide +kernel)) (
  zcons (zk_iload (pc := 49) (by decide +kernel)) (
  zcons (zk_ishr (pc := 51) (by decide +kernel)) (
  zcons (zk_iconst (pc := 52) (z := 1) (by decide) (by decide +kernel)) (
  zcons (zk_iand (pc := 53) (by decide +kernel)) (
  zcons (zk_ifeq (pc := 54) (off := 5) (by decide) (by decide +kernel)) (
  zcons (zk_iconst (pc := 57) (z := 0) (by decide) (by decide +kernel)) (
  zcons (zk_retz (pc := 58) rfl (by decide +kernel)) (
  zcons (zk_iload (pc := 59) (by decide +kernel)) (
  zcons (zk_iconst (pc := 61) (z := 1) (by decide) (by decide +kernel)) (
  zcons (zk_iload (pc := 62) (by decide +kernel)) (
  zcons (zk_ishl (pc := 64) (by decide +kernel)) (
  zcons (zk_ior (pc := 65) (by decide +kernel)) (
  zcons (zk_istore (pc := 66) (by decide +kernel)) (
  zcons (zk_aload_n (pc := 68) (j := 0) rfl (by decide +kernel)) (
  zcons (zk_getr (pc := 69) (ci := 6) (j := 0) rfl zinX6 (by decide) zw_221 (by decide +kernel)) (
  zcons (zk_iload (pc := 72) (by decide +kernel)) (
  zcons (zk_iload (pc := 74) (by decide +kernel)) (
  zcons (zk_iastore (pc := 76) (by decide +kernel)) (
  zcons (zk_aload_n (pc := 77) (j := 0) rfl (by decide +kernel)) (
  zcons (zk_iload (pc := 78) (by decide +kernel)) (
  zcons (zk_iconst (pc := 80) (z := 1) (by decide) (by decide +kernel)) (
  zcons (zk_iadd (pc := 81) (by decide +kernel)) (
  zcons (zk_put (pc := 82) (ci := 6) (j := 2) rfl zinX6 (by decide) zw_223 tyX6 tyX6_ok nmX6 rfl (by decide +kernel) (by decide +kernel)) (
  zcons (zk_iinc (pc := 85) (z := 1) (by decide) (by decide +kernel)) (
  zcons (zk_goto (pc := 88) (off := (-77)) (by decide) (by decide +kernel)) (
  zcons (zk_iconst (pc := 91) (z := 1) (by decide) (by decide +kernel)) (
  zcons (zk_retz (pc := 92) rfl (by decide +kernel)) (znil)))))))))))))))))))))))))))))))))))))))))))))))))))))
def tb_X6_takePays : List (Nat × ZP) := [(0, zo_i 0 1), (1, zo_is 3 2), (2, zo_il 3 3), (3, zo_al 0 4), (4, zo_get 6 2 7), (7, zo_icge 30 10), (10, zo_al 0 11), (11, zo_getr 6 1 14), (14, zo_il 3 15), (15, zo_al 1 16), (16, zo_getr 4 0 19), (19, zo_il 2 20), (20, zo_il 3 21), (21, zo_bin (· + ·) 22), (22, zo_iald 23), (23, zo_iast 24), (24, zo_inc 3 1 27), (27, zo_goto 2), (30, zo_retv)]
def cu_X6_takePays : List (Nat × List Bool) := [(2, [true, true, true, true])]
set_option maxRecDepth 100000 in
set_option maxHeartbeats 4000000 in
theorem ok_X6_takePays : ∀ e ∈ tb_X6_takePays, ZOK zmt cX6_takePays RX6 0 e.1 e.2 :=
  zcons (zk_iconst (pc := 0) (z := 0) (by decide) (by decide +kernel)) (
  zcons (zk_istore_n (pc := 1) (j := 3) rfl (by decide +kernel)) (
  zcons (zk_iload_n (pc := 2) (j := 3) rfl (by decide +kernel)) (
  zcons (zk_aload_n (pc := 3) (j := 0) rfl (by decide +kernel)) (
  zcons (zk_get (pc := 4) (ci := 6) (j := 2) rfl zinX6 (by decide) zw_223 (by decide +kernel)) (
  zcons (zk_icge (pc := 7) (off := 23) (by decide) (by decide +kernel)) (
  zcons (zk_aload_n (pc := 10) (j := 0) rfl (by decide +kernel)) (
  zcons (zk_getr (pc := 11) (ci := 6) (j := 1) rfl zinX6 (by decide) zw_222 (by decide +kernel)) (
  zcons (zk_iload_n (pc := 14) (j := 3) rfl (by decide +kernel)) (
  zcons (zk_aload_n (pc := 15) (j := 1) rfl (by decide +kernel)) (
  zcons (zk_getrN (pc := 16) (ci := 4) (j := 0) rfl zinX4 (by decide) zw_237 (by decide +kernel)) (
  zcons (zk_iload_n (pc := 19) (j := 2) rfl (by decide +kernel)) (
  zcons (zk_iload_n (pc := 20) (j := 3) rfl (by decide +kernel)) (
  zcons (zk_iadd (pc := 21) (by decide +kernel)) (
  zcons (zk_iaload (pc := 22) (by decide +kernel)) (
  zcons (zk_iastore (pc := 23) (by decide +kernel)) (
  zcons (zk_iinc (pc := 24) (z := 1) (by decide) (by decide +kernel)) (
  zcons (zk_goto (pc := 27) (off := (-25)) (by decide) (by decide +kernel)) (
  zcons (zk_retv (pc := 30) rfl (by decide +kernel)) (znil)))))))))))))))))))
def tb_X6_isSo : List (Nat × ZP) := [(0, zo_i 0 1), (1, zo_is 2 2), (2, zo_i 0 3), (3, zo_is 3 4), (4, zo_il 3 5), (5, zo_al 0 6), (6, zo_get 6 2 9), (9, zo_icge 45 12), (12, zo_il 2 13), (13, zo_i 1 14), (14, zo_al 0 15), (15, zo_getr 6 0 18), (18, zo_il 3 19), (19, zo_iald 20), (20, zo_bin zshl 21), (21, zo_bin (· ||| ·) 22), (22, zo_is 2 23), (23, zo_al 1 24), (24, zo_il 2 25), (25, zo_cvi 5 68 1 28), (28, zo_al 0 29), (29, zo_getr 6 1 32), (32, zo_il 3 33), (33, zo_iald 34), (34, zo_iceq 39 37), (37, zo_i 0 38), (38, zo_retz), (39, zo_inc 3 1 42), (42, zo_goto 4), (45, zo_i 1 46), (46, zo_retz)]
def cu_X6_isSo : List (Nat × List Bool) := [(4, [true, true, true, true])]
set_option maxRecDepth 100000 in
set_option maxHeartbeats 4000000 in
theorem ok_X6_isSo : ∀ e ∈ tb_X6_isSo, ZOK zmt cX6_isSo RX6 3 e.1 e.2 :=
  zcons (zk_iconst (pc := 0) (z := 0) (by decide) (by decide +kernel)) (
  zcons (zk_istore_n (pc := 1) (j := 2) rfl (by decide +kernel)) (
  zcons (zk_iconst (pc := 2) (z := 0) (by decide) (by decide +kernel)) (
  zcons (zk_istore_n (pc := 3) (j := 3) rfl (by decide +kernel)) (
  zcons (zk_iload_n (pc := 4) (j := 3) rfl (by decide +kernel)) (
  zcons (zk_aload_n (pc := 5) (j := 0) rfl (by decide +kernel)) (
  zcons (zk_get (pc := 6) (ci := 6) (j := 2) rfl zinX6 (by decide) zw_223 (by decide +kernel)) (
  zcons (zk_icge (pc := 9) (off := 36) (by decide) (by decide +kernel)) (
  zcons (zk_iload_n (pc := 12) (j := 2) rfl (by decide +kernel)) (
  zcons (zk_iconst (pc := 13) (z := 1) (by decide) (by decide +kernel)) (
  zcons (zk_aload_n (pc := 14) (j := 0) rfl (by decide +kernel)) (
  zcons (zk_getr (pc := 15) (ci := 6) (j := 0) rfl zinX6 (by decide) zw_221 (by decide +kernel)) (
  zcons (zk_iload_n (pc := 18) (j := 3) rfl (by decide +kernel)) (
  zcons (zk_iaload (pc := 19) (by decide +kernel)) (
  zcons (zk_ishl (pc := 20) (by decide +kernel)) (
  zcons (zk_ior (pc := 21) (by decide +kernel)) (
  zcons (zk_istore_n (pc := 22) (j := 2) rfl (by decide +kernel)) (
  zcons (zk_aload_n (pc := 23) (j := 1) rfl (by decide +kernel)) (
  zcons (zk_iload_n (pc := 24) (j := 2) rfl (by decide +kernel)) (
  zcons (zk_cviN (pc := 25) 68 rfl (ci := 5) rfl zw_782 zw_475 zsel_X5_paysOf zds_X5_paysOf (by decide) zw_476 zw_3 (by decide +kernel)) (
  zcons (zk_aload_n (pc := 28) (j := 0) rfl (by decide +kernel)) (
  zcons (zk_getr (pc := 29) (ci := 6) (j := 1) rfl zinX6 (by decide) zw_222 (by decide +kernel)) (
  zcons (zk_iload_n (pc := 32) (j := 3) rfl (by decide +kernel)) (
  zcons (zk_iaload (pc := 33) (by decide +kernel)) (
  zcons (zk_iceq (pc := 34) (off := 5) (by decide) (by decide +kernel)) (
  zcons (zk_iconst (pc := 37) (z := 0) (by decide) (by decide +kernel)) (
  zcons (zk_retz (pc := 38) rfl (by decide +kernel)) (
  zcons (zk_iinc (pc := 39) (z := 1) (by decide) (by decide +kernel)) (
  zcons (zk_goto (pc := 42) (off := (-38)) (by decide) (by decide +kernel)) (
  zcons (zk_iconst (pc := 45) (z := 1) (by decide) (by decide +kernel)) (
  zcons (zk_retz (pc := 46) rfl (by decide +kernel)) (znil)))))))))))))))))))))))))))))))
def tb_X2_learn : List (Nat × ZP) := [(0, zo_i 1 1), (1, zo_al 1 2), (2, zo_get 5 1 5), (5, zo_bin zshl 6), (6, zo_is 2 7), (7, zo_al 0 8), (8, zo_i 0 9), (9, zo_put 2 3 12), (12, zo_i 1 13), (13, zo_is 3 14), (14, zo_il 3 15), (15, zo_il 2 16), (16, zo_icge 99 19), (19, zo_il 3 20), (20, zo_i 1024 23), (23, zo_icge 99 26), (26, zo_al 0 27), (27, zo_getr 2 0 30), (30, zo_il 3 31), (31, zo_il 3 32), (32, zo_csi 233 1 35), (35, zo_i 1 36), (36, zo_iceq 48 39), (39, zo_al 0 40), (40, zo_al 1 41), (41, zo_il 3 42), (42, zo_cvi 2 10 2 45), (45, zo_ifeq 52 48), (48, zo_i 1 49), (49, zo_goto 53), (52, zo_i 0 53), (53, zo_zast 54), (54, zo_al 0 55), (55, zo_getr 2 0 58), (58, zo_il 3 59), (59, zo_zald 60), (60, zo_ifeq 93 63), (63, zo_al 0 64), (64, zo_get 2 3 67), (67, zo_i 275 70), (70, zo_icge 93 73), (73, zo_al 0 74), (74, zo_getr 2 1 77), (77, zo_al 0 78), (78, zo_get 2 3 81), (81, zo_il 3 82), (82, zo_iast 83), (83, zo_al 0 84), (84, zo_dup 85), (85, zo_get 2 3 88), (88, zo_i 1 89), (89, zo_bin (· + ·) 90), (90, zo_put 2 3 93), (93, zo_inc 3 1 96), (96, zo_goto 14), (99, zo_retv)]
def cu_X2_learn : List (Nat × List Bool) := [(14, [true, true, true, true])]
set_option maxRecDepth 100000 in
set_option maxHeartbeats 4000000 in
theorem ok_X2_learn : ∀ e ∈ tb_X2_learn, ZOK zmt cX2_learn RX2 0 e.1 e.2 :=
  zcons (zk_iconst (pc := 0) (z := 1) (by decide) (by decide +kernel)) (
  zcons (zk_aload_n (pc := 1) (j := 1) rfl (by decide +kernel)) (
  zcons (zk_getN (pc := 2) (ci := 5) (j := 1) rfl zinX5 (by decide) zw_65 (by decide +kernel)) (
  zcons (zk_ishl (pc := 5) (by decide +kernel)) (
  zcons (zk_istore_n (pc := 6) (j := 2) rfl (by decide +kernel)) (
  zcons (zk_aload_n (pc := 7) (j := 0) rfl (by decide +kernel)) (
  zcons (zk_iconst (pc := 8) (z := 0) (by decide) (by decide +kernel)) (
  zcons (zk_put (pc := 9) (ci := 2) (j := 3) rfl zinX2 (by decide) zw_164 tyX2 tyX2_ok nmX2 rfl (by decide +kernel) (by decide +kernel)) (
  zcons (zk_iconst (pc := 12) (z := 1) (by decide) (by decide +kernel)) (
  zcons (zk_istore_n (pc := 13) (j := 3) rfl (by decide +kernel)) (
  zcons (zk_iload_n (pc := 14) (j := 3) rfl (by decide +kernel)) (
  zcons (zk_iload_n (pc := 15) (j := 2) rfl (by decide +kernel)) (
  zcons (zk_icge (pc := 16) (off := 83) (by decide) (by decide +kernel)) (
  zcons (zk_iload_n (pc := 19) (j := 3) rfl (by decide +kernel)) (
  zcons (zk_sipush (pc := 20) (z := 1024) (by decide) (by decide +kernel)) (
  zcons (zk_icge (pc := 23) (off := 76) (by decide) (by decide +kernel)) (
  zcons (zk_aload_n (pc := 26) (j := 0) rfl (by decide +kernel)) (
  zcons (zk_getr (pc := 27) (ci := 2) (j := 0) rfl zinX2 (by decide) zw_161 (by decide +kernel)) (
  zcons (zk_iload_n (pc := 30) (j := 3) rfl (by decide +kernel)) (
  zcons (zk_iload_n (pc := 31) (j := 3) rfl (by decide +kernel)) (
  zcons (zk_csi (pc := 32) 233 rfl zw_422 zw_423 zds_J6_bitCount_0f7a4 (by decide) zw_424 zw_13 (by decide +kernel)) (
  zcons (zk_iconst (pc := 35) (z := 1) (by decide) (by decide +kernel)) (
  zcons (zk_iceq (pc := 36) (off := 12) (by decide) (by decide +kernel)) (
  zcons (zk_aload_n (pc := 39) (j := 0) rfl (by decide +kernel)) (
  zcons (zk_aload_n (pc := 40) (j := 1) rfl (by decide +kernel)) (
  zcons (zk_iload_n (pc := 41) (j := 3) rfl (by decide +kernel)) (
  zcons (zk_cvi (pc := 42) 10 rfl (ci := 2) rfl zw_428 zw_430 zsel_X2_hangsByOneLess zds_X2_hangsByOneLess (by decide) zw_431 zw_5 (by decide +kernel)) (
  zcons (zk_ifeq (pc := 45) (off := 7) (by decide) (by decide +kernel)) (
  zcons (zk_iconst (pc := 48) (z := 1) (by decide) (by decide +kernel)) (
  zcons (zk_goto (pc := 49) (off := 4) (by decide) (by decide +kernel)) (
  zcons (zk_iconst (pc := 52) (z := 0) (by decide) (by decide +kernel)) (
  zcons (zk_bastorez (pc := 53) (by decide +kernel)) (
  zcons (zk_aload_n (pc := 54) (j := 0) rfl (by decide +kernel)) (
  zcons (zk_getr (pc := 55) (ci := 2) (j := 0) rfl zinX2 (by decide) zw_161 (by decide +kernel)) (
  zcons (zk_iload_n (pc := 58) (j := 3) rfl (by decide +kernel)) (
  zcons (zk_baloadz (pc := 59) (by decide +kernel)) (
  zcons (zk_ifeq (pc := 60) (off := 33) (by decide) (by decide +kernel)) (
  zcons (zk_aload_n (pc := 63) (j := 0) rfl (by decide +kernel)) (
  zcons (zk_get (pc := 64) (ci := 2) (j := 3) rfl zinX2 (by decide) zw_164 (by decide +kernel)) (
  zcons (zk_sipush (pc := 67) (z := 275) (by decide) (by decide +kernel)) (
  zcons (zk_icge (pc := 70) (off := 23) (by decide) (by decide +kernel)) (
  zcons (zk_aload_n (pc := 73) (j := 0) rfl (by decide +kernel)) (
  zcons (zk_getr (pc := 74) (ci := 2) (j := 1) rfl zinX2 (by decide) zw_162 (by decide +kernel)) (
  zcons (zk_aload_n (pc := 77) (j := 0) rfl (by decide +kernel)) (
  zcons (zk_get (pc := 78) (ci := 2) (j := 3) rfl zinX2 (by decide) zw_164 (by decide +kernel)) (
  zcons (zk_iload_n (pc := 81) (j := 3) rfl (by decide +kernel)) (
  zcons (zk_iastore (pc := 82) (by decide +kernel)) (
  zcons (zk_aload_n (pc := 83) (j := 0) rfl (by decide +kernel)) (
  zcons (zk_dup (pc := 84) (by decide +kernel)) (
  zcons (zk_get (pc := 85) (ci := 2) (j := 3) rfl zinX2 (by decide) zw_164 (by decide +kernel)) (
  zcons (zk_iconst (pc := 88) (z := 1) (by decide) (by decide +kernel)) (
  zcons (zk_iadd (pc := 89) (by decide +kernel)) (
  zcons (zk_put (pc := 90) (ci := 2) (j := 3) rfl zinX2 (by decide) zw_164 tyX2 tyX2_ok nmX2 rfl (by decide +kernel) (by decide +kernel)) (
  zcons (zk_iinc (pc := 93) (z := 1) (by decide) (by decide +kernel)) (
  zcons (zk_goto (pc := 96) (off := (-82)) (by decide) (by decide +kernel)) (
  zcons (zk_retv (pc := 99) rfl (by decide +kernel)) (znil))))))))))))))))))))))))))))))))))))))))))))))))))))))))
def tb_X2_hangsByOneLess : List (Nat × ZP) := [(0, zo_i 0 1), (1, zo_is 3 2), (2, zo_il 3 3), (3, zo_al 1 4), (4, zo_get 5 1 7), (7, zo_icge 62 10), (10, zo_il 2 11), (11, zo_il 3 12), (12, zo_bin zshr 13), (13, zo_i 1 14), (14, zo_bin (· &&& ·) 15), (15, zo_ifeq 33 18), (18, zo_al 1 19), (19, zo_getr 5 8 22), (22, zo_il 3 23), (23, zo_iald 24), (24, zo_il 2 25), (25, zo_bin (· &&& ·) 26), (26, zo_ifeq 33 29), (29, zo_i 1 30), (30, zo_goto 34), (33, zo_i 0 34), (34, zo_is 4 36), (36, zo_il 4 38), (38, zo_ifeq 56 41), (41, zo_al 0 42), (42, zo_getr 2 0 45), (45, zo_il 2 46), (46, zo_i 1 47), (47, zo_il 3 48), (48, zo_bin zshl 49), (49, zo_bin (· ^^^ ·) 50), (50, zo_zald 51), (51, zo_ifeq 56 54), (54, zo_i 1 55), (55, zo_retz), (56, zo_inc 3 1 59), (59, zo_goto 2), (62, zo_i 0 63), (63, zo_retz)]
def cu_X2_hangsByOneLess : List (Nat × List Bool) := [(2, [true, true, true, true, false])]
set_option maxRecDepth 100000 in
set_option maxHeartbeats 4000000 in
theorem ok_X2_hangsByOneLess : ∀ e ∈ tb_X2_hangsByOneLess, ZOK zmt cX2_hangsByOneLess RX2 3 e.1 e.2 :=
  zcons (zk_iconst (pc := 0) (z := 0) (by decide) (by decide +kernel)) (
  zcons (zk_istore_n (pc := 1) (j := 3) rfl (by decide +kernel)) (
  zcons (zk_iload_n (pc := 2) (j := 3) rfl (by decide +kernel)) (
  zcons (zk_aload_n (pc := 3) (j := 1) rfl (by decide +kernel)) (
  zcons (zk_getN (pc := 4) (ci := 5) (j := 1) rfl zinX5 (by decide) zw_65 (by decide +kernel)) (
  zcons (zk_icge (pc := 7) (off := 55) (by decide) (by decide +kernel)) (
  zcons (zk_iload_n (pc := 10) (j := 2) rfl (by decide +kernel)) (
  zcons (zk_iload_n (pc := 11) (j := 3) rfl (by decide +kernel)) (
  zcons (zk_ishr (pc := 12) (by decide +kernel)) (
  zcons (zk_iconst (pc := 13) (z := 1) (by decide) (by decide +kernel)) (
  zcons (zk_iand (pc := 14) (by decide +kernel)) (
  zcons (zk_ifeq (pc := 15) (off := 18) (by decide) (by decide +kernel)) (
  zcons (zk_aload_n (pc := 18) (j := 1) rfl (by decide +kernel)) (
  zcons (zk_getrN (pc := 19) (ci := 5) (j := 8) rfl zinX5 (by decide) zw_87 (by decide +kernel)) (
  zcons (zk_iload_n (pc := 22) (j := 3) rfl (by decide +kernel)) (
  zcons (zk_iaload (pc := 23) (by decide +kernel)) (
  zcons (zk_iload_n (pc := 24) (j := 2) rfl (by decide +kernel)) (
  zcons (zk_iand (pc := 25) (by decide +kernel)) (
  zcons (zk_ifeq (pc := 26) (off := 7) (by decide) (by decide +kernel)) (
  zcons (zk_iconst (pc := 29) (z := 1) (by decide) (by decide +kernel)) (
  zcons (zk_goto (pc := 30) (off := 4) (by decide) (by decide +kernel)) (
  zcons (zk_iconst (pc := 33) (z := 0) (by decide) (by decide +kernel)) (
  zcons (zk_istore (pc := 34) (by decide +kernel)) (
  zcons (zk_iload (pc := 36) (by decide +kernel)) (
  zcons (zk_ifeq (pc := 38) (off := 18) (by decide) (by decide +kernel)) (
  zcons (zk_aload_n (pc := 41) (j := 0) rfl (by decide +kernel)) (
  zcons (zk_getr (pc := 42) (ci := 2) (j := 0) rfl zinX2 (by decide) zw_161 (by decide +kernel)) (
  zcons (zk_iload_n (pc := 45) (j := 2) rfl (by decide +kernel)) (
  zcons (zk_iconst (pc := 46) (z := 1) (by decide) (by decide +kernel)) (
  zcons (zk_iload_n (pc := 47) (j := 3) rfl (by decide +kernel)) (
  zcons (zk_ishl (pc := 48) (by decide +kernel)) (
  zcons (zk_ixor (pc := 49) (by decide +kernel)) (
  zcons (zk_baloadz (pc := 50) (by decide +kernel)) (
  zcons (zk_ifeq (pc := 51) (off := 5) (by decide) (by decide +kernel)) (
  zcons (zk_iconst (pc := 54) (z := 1) (by decide) (by decide +kernel)) (
  zcons (zk_retz (pc := 55) rfl (by decide +kernel)) (
  zcons (zk_iinc (pc := 56) (z := 1) (by decide) (by decide +kernel)) (
  zcons (zk_goto (pc := 59) (off := (-57)) (by decide) (by decide +kernel)) (
  zcons (zk_iconst (pc := 62) (z := 0) (by decide) (by decide +kernel)) (
  zcons (zk_retz (pc := 63) rfl (by decide +kernel)) (znil))))))))))))))))))))))))))))))))))))))))

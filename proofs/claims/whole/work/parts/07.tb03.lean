def tb_X7_row : List (Nat × ZP) := [(0, zo_il 1 1), (1, zo_csi 126 1 4), (4, zo_ifeq 22 7), (7, zo_il 2 8), (8, zo_iflt 22 11), (11, zo_il 2 12), (12, zo_i 3 13), (13, zo_icge 22 16), (16, zo_il 3 17), (17, zo_i 40 19), (19, zo_icle 25 22), (22, zo_i (-1000001) 24), (24, zo_reti), (25, zo_il 3 26), (26, zo_ifge 35 29), (29, zo_al 0 30), (30, zo_i 4 31), (31, zo_cvi 7 120 1 34), (34, zo_reti), (35, zo_al 0 36), (36, zo_getr 7 0 39), (39, zo_il 1 40), (40, zo_aald 3 41), (41, zo_il 2 42), (42, zo_il 3 43), (43, zo_cvv 4 50 2 46), (46, zo_al 0 47), (47, zo_il 3 48), (48, zo_cvi 7 121 1 51), (51, zo_reti)]
def cu_X7_row : List (Nat × List Bool) := []
set_option maxRecDepth 100000 in
set_option maxHeartbeats 4000000 in
theorem ok_X7_row : ∀ e ∈ tb_X7_row, ZOK zmt cX7_row RX7 1 e.1 e.2 :=
  zcons (zk_iload_n (pc := 0) (j := 1) rfl (by decide +kernel)) (
  zcons (zk_csi (pc := 1) 126 rfl zw_289 zw_290 zds_X7_isRow (by decide) zw_291 zw_1 (by decide +kernel)) (
  zcons (zk_ifeq (pc := 4) (off := 18) (by decide) (by decide +kernel)) (
  zcons (zk_iload_n (pc := 7) (j := 2) rfl (by decide +kernel)) (
  zcons (zk_iflt (pc := 8) (off := 14) (by decide) (by decide +kernel)) (
  zcons (zk_iload_n (pc := 11) (j := 2) rfl (by decide +kernel)) (
  zcons (zk_iconst (pc := 12) (z := 3) (by decide) (by decide +kernel)) (
  zcons (zk_icge (pc := 13) (off := 9) (by decide) (by decide +kernel)) (
  zcons (zk_iload_n (pc := 16) (j := 3) rfl (by decide +kernel)) (
  zcons (zk_bipush (pc := 17) (z := 40) (by decide) (by decide +kernel)) (
  zcons (zk_icle (pc := 19) (off := 6) (by decide) (by decide +kernel)) (
  zcons (zk_ldc (pc := 22) zw_292 (by decide +kernel)) (
  zcons (zk_reti (pc := 24) rfl (by decide +kernel)) (
  zcons (zk_iload_n (pc := 25) (j := 3) rfl (by decide +kernel)) (
  zcons (zk_ifge (pc := 26) (off := 9) (by decide) (by decide +kernel)) (
  zcons (zk_aload_n (pc := 29) (j := 0) rfl (by decide +kernel)) (
  zcons (zk_iconst (pc := 30) (z := 4) (by decide) (by decide +kernel)) (
  zcons (zk_cvi (pc := 31) 120 rfl (ci := 7) rfl zw_293 zw_295 zsel_X7_found zds_X7_found (by decide) zw_296 zw_1 (by decide +kernel)) (
  zcons (zk_reti (pc := 34) rfl (by decide +kernel)) (
  zcons (zk_aload_n (pc := 35) (j := 0) rfl (by decide +kernel)) (
  zcons (zk_getr (pc := 36) (ci := 7) (j := 0) rfl zinX7 (by decide) zw_254 (by decide +kernel)) (
  zcons (zk_iload_n (pc := 39) (j := 1) rfl (by decide +kernel)) (
  zcons (zk_aaload (pc := 40) (t := 3) (fun _ => rfl) (by decide +kernel)) (
  zcons (zk_iload_n (pc := 41) (j := 2) rfl (by decide +kernel)) (
  zcons (zk_iload_n (pc := 42) (j := 3) rfl (by decide +kernel)) (
  zcons (zk_cvvN (pc := 43) 50 rfl (ci := 4) rfl zw_298 zw_300 zsel_X4_begin zds_X4_begin (by decide) zw_301 zw_8 (by decide +kernel)) (
  zcons (zk_aload_n (pc := 46) (j := 0) rfl (by decide +kernel)) (
  zcons (zk_iload_n (pc := 47) (j := 3) rfl (by decide +kernel)) (
  zcons (zk_cvi (pc := 48) 121 rfl (ci := 7) rfl zw_305 zw_307 zsel_X7_fine zds_X7_fine (by decide) zw_308 zw_1 (by decide +kernel)) (
  zcons (zk_reti (pc := 51) rfl (by decide +kernel)) (znil))))))))))))))))))))))))))))))
def tb_X7_set : List (Nat × ZP) := [(0, zo_il 1 1), (1, zo_csi 126 1 4), (4, zo_ifne 10 7), (7, zo_i (-1000001) 9), (9, zo_reti), (10, zo_al 0 11), (11, zo_getr 7 0 14), (14, zo_il 1 15), (15, zo_aald 3 16), (16, zo_get 4 1 19), (19, zo_ifne 28 22), (22, zo_al 0 23), (23, zo_i 1 24), (24, zo_cvi 7 120 1 27), (27, zo_reti), (28, zo_al 0 29), (29, zo_getr 7 0 32), (32, zo_il 1 33), (33, zo_aald 3 34), (34, zo_il 2 35), (35, zo_i 1 36), (36, zo_cvi 4 51 2 39), (39, zo_ifne 48 42), (42, zo_al 0 43), (43, zo_i 2 44), (44, zo_cvi 7 120 1 47), (47, zo_reti), (48, zo_al 0 49), (49, zo_al 0 50), (50, zo_getr 7 0 53), (53, zo_il 1 54), (54, zo_aald 3 55), (55, zo_il 2 56), (56, zo_il 3 57), (57, zo_cvi 4 52 2 60), (60, zo_cvi 7 121 1 63), (63, zo_reti)]
def cu_X7_set : List (Nat × List Bool) := []
set_option maxRecDepth 100000 in
set_option maxHeartbeats 4000000 in
theorem ok_X7_set : ∀ e ∈ tb_X7_set, ZOK zmt cX7_set RX7 1 e.1 e.2 :=
  zcons (zk_iload_n (pc := 0) (j := 1) rfl (by decide +kernel)) (
  zcons (zk_csi (pc := 1) 126 rfl zw_289 zw_290 zds_X7_isRow (by decide) zw_291 zw_1 (by decide +kernel)) (
  zcons (zk_ifne (pc := 4) (off := 6) (by decide) (by decide +kernel)) (
  zcons (zk_ldc (pc := 7) zw_292 (by decide +kernel)) (
  zcons (zk_reti (pc := 9) rfl (by decide +kernel)) (
  zcons (zk_aload_n (pc := 10) (j := 0) rfl (by decide +kernel)) (
  zcons (zk_getr (pc := 11) (ci := 7) (j := 0) rfl zinX7 (by decide) zw_254 (by decide +kernel)) (
  zcons (zk_iload_n (pc := 14) (j := 1) rfl (by decide +kernel)) (
  zcons (zk_aaload (pc := 15) (t := 3) (fun _ => rfl) (by decide +kernel)) (
  zcons (zk_getN (pc := 16) (ci := 4) (j := 1) rfl zinX4 (by decide) zw_240 (by decide +kernel)) (
  zcons (zk_ifne (pc := 19) (off := 9) (by decide) (by decide +kernel)) (
  zcons (zk_aload_n (pc := 22) (j := 0) rfl (by decide +kernel)) (
  zcons (zk_iconst (pc := 23) (z := 1) (by decide) (by decide +kernel)) (
  zcons (zk_cvi (pc := 24) 120 rfl (ci := 7) rfl zw_293 zw_295 zsel_X7_found zds_X7_found (by decide) zw_296 zw_1 (by decide +kernel)) (
  zcons (zk_reti (pc := 27) rfl (by decide +kernel)) (
  zcons (zk_aload_n (pc := 28) (j := 0) rfl (by decide +kernel)) (
  zcons (zk_getr (pc := 29) (ci := 7) (j := 0) rfl zinX7 (by decide) zw_254 (by decide +kernel)) (
  zcons (zk_iload_n (pc := 32) (j := 1) rfl (by decide +kernel)) (
  zcons (zk_aaload (pc := 33) (t := 3) (fun _ => rfl) (by decide +kernel)) (
  zcons (zk_iload_n (pc := 34) (j := 2) rfl (by decide +kernel)) (
  zcons (zk_iconst (pc := 35) (z := 1) (by decide) (by decide +kernel)) (
  zcons (zk_cviN (pc := 36) 51 rfl (ci := 4) rfl zw_313 zw_315 zsel_X4_reaches zds_X4_reaches (by decide) zw_316 zw_8 (by decide +kernel)) (
  zcons (zk_ifne (pc := 39) (off := 9) (by decide) (by decide +kernel)) (
  zcons (zk_aload_n (pc := 42) (j := 0) rfl (by decide +kernel)) (
  zcons (zk_iconst (pc := 43) (z := 2) (by decide) (by decide +kernel)) (
  zcons (zk_cvi (pc := 44) 120 rfl (ci := 7) rfl zw_293 zw_295 zsel_X7_found zds_X7_found (by decide) zw_296 zw_1 (by decide +kernel)) (
  zcons (zk_reti (pc := 47) rfl (by decide +kernel)) (
  zcons (zk_aload_n (pc := 48) (j := 0) rfl (by decide +kernel)) (
  zcons (zk_aload_n (pc := 49) (j := 0) rfl (by decide +kernel)) (
  zcons (zk_getr (pc := 50) (ci := 7) (j := 0) rfl zinX7 (by decide) zw_254 (by decide +kernel)) (
  zcons (zk_iload_n (pc := 53) (j := 1) rfl (by decide +kernel)) (
  zcons (zk_aaload (pc := 54) (t := 3) (fun _ => rfl) (by decide +kernel)) (
  zcons (zk_iload_n (pc := 55) (j := 2) rfl (by decide +kernel)) (
  zcons (zk_iload_n (pc := 56) (j := 3) rfl (by decide +kernel)) (
  zcons (zk_cviN (pc := 57) 52 rfl (ci := 4) rfl zw_317 zw_319 zsel_X4_put zds_X4_put (by decide) zw_320 zw_8 (by decide +kernel)) (
  zcons (zk_cvi (pc := 60) 121 rfl (ci := 7) rfl zw_305 zw_307 zsel_X7_fine zds_X7_fine (by decide) zw_308 zw_1 (by decide +kernel)) (
  zcons (zk_reti (pc := 63) rfl (by decide +kernel)) (znil)))))))))))))))))))))))))))))))))))))
def tb_X7_copy : List (Nat × ZP) := [(0, zo_il 1 1), (1, zo_csi 126 1 4), (4, zo_ifeq 14 7), (7, zo_il 3 8), (8, zo_csi 126 1 11), (11, zo_ifne 17 14), (14, zo_i (-1000001) 16), (16, zo_reti), (17, zo_al 0 18), (18, zo_getr 7 0 21), (21, zo_il 1 22), (22, zo_aald 3 23), (23, zo_as 6 25), (25, zo_al 0 26), (26, zo_getr 7 0 29), (29, zo_il 3 30), (30, zo_aald 3 31), (31, zo_as 7 33), (33, zo_al 6 35), (35, zo_get 4 1 38), (38, zo_ifeq 49 41), (41, zo_al 7 43), (43, zo_get 4 1 46), (46, zo_ifne 55 49), (49, zo_al 0 50), (50, zo_i 1 51), (51, zo_cvi 7 120 1 54), (54, zo_reti), (55, zo_al 6 57), (57, zo_get 4 2 60), (60, zo_al 7 62), (62, zo_get 4 2 65), (65, zo_iceq 74 68), (68, zo_al 0 69), (69, zo_i 5 70), (70, zo_cvi 7 120 1 73), (73, zo_reti), (74, zo_al 6 76), (76, zo_il 2 77), (77, zo_il 5 79), (79, zo_cvi 4 51 2 82), (82, zo_ifeq 97 85), (85, zo_al 7 87), (87, zo_il 4 89), (89, zo_il 5 91), (91, zo_cvi 4 51 2 94), (94, zo_ifne 103 97), (97, zo_al 0 98), (98, zo_i 2 99), (99, zo_cvi 7 120 1 102), (102, zo_reti), (103, zo_al 6 105), (105, zo_getr 4 0 108), (108, zo_il 2 109), (109, zo_al 7 111), (111, zo_getr 4 0 114), (114, zo_il 4 116), (116, zo_il 5 118), (118, zo_cpy 121), (121, zo_al 0 122), (122, zo_il 5 124), (124, zo_cvi 7 121 1 127), (127, zo_reti)]
def cu_X7_copy : List (Nat × List Bool) := []
set_option maxRecDepth 100000 in
set_option maxHeartbeats 4000000 in
theorem ok_X7_copy : ∀ e ∈ tb_X7_copy, ZOK zmt cX7_copy RX7 1 e.1 e.2 :=
  zcons (zk_iload_n (pc := 0) (j := 1) rfl (by decide +kernel)) (
  zcons (zk_csi (pc := 1) 126 rfl zw_289 zw_290 zds_X7_isRow (by decide) zw_291 zw_1 (by decide +kernel)) (
  zcons (zk_ifeq (pc := 4) (off := 10) (by decide) (by decide +kernel)) (
  zcons (zk_iload_n (pc := 7) (j := 3) rfl (by decide +kernel)) (
  zcons (zk_csi (pc := 8) 126 rfl zw_289 zw_290 zds_X7_isRow (by decide) zw_291 zw_1 (by decide +kernel)) (
  zcons (zk_ifne (pc := 11) (off := 6) (by decide) (by decide +kernel)) (
  zcons (zk_ldc (pc := 14) zw_292 (by decide +kernel)) (
  zcons (zk_reti (pc := 16) rfl (by decide +kernel)) (
  zcons (zk_aload_n (pc := 17) (j := 0) rfl (by decide +kernel)) (
  zcons (zk_getr (pc := 18) (ci := 7) (j := 0) rfl zinX7 (by decide) zw_254 (by decide +kernel)) (
  zcons (zk_iload_n (pc := 21) (j := 1) rfl (by decide +kernel)) (
  zcons (zk_aaload (pc := 22) (t := 3) (fun _ => rfl) (by decide +kernel)) (
  zcons (zk_astore (pc := 23) (by decide +kernel)) (
  zcons (zk_aload_n (pc := 25) (j := 0) rfl (by decide +kernel)) (
  zcons (zk_getr (pc := 26) (ci := 7) (j := 0) rfl zinX7 (by decide) zw_254 (by decide +kernel)) (
  zcons (zk_iload_n (pc := 29) (j := 3) rfl (by decide +kernel)) (
  zcons (zk_aaload (pc := 30) (t := 3) (fun _ => rfl) (by decide +kernel)) (
  zcons (zk_astore (pc := 31) (by decide +kernel)) (
  zcons (zk_aload (pc := 33) (by decide +kernel)) (
  zcons (zk_getN (pc := 35) (ci := 4) (j := 1) rfl zinX4 (by decide) zw_240 (by decide +kernel)) (
  zcons (zk_ifeq (pc := 38) (off := 11) (by decide) (by decide +kernel)) (
  zcons (zk_aload (pc := 41) (by decide +kernel)) (
  zcons (zk_getN (pc := 43) (ci := 4) (j := 1) rfl zinX4 (by decide) zw_240 (by decide +kernel)) (
  zcons (zk_ifne (pc := 46) (off := 9) (by decide) (by decide +kernel)) (
  zcons (zk_aload_n (pc := 49) (j := 0) rfl (by decide +kernel)) (
  zcons (zk_iconst (pc := 50) (z := 1) (by decide) (by decide +kernel)) (
  zcons (zk_cvi (pc := 51) 120 rfl (ci := 7) rfl zw_293 zw_295 zsel_X7_found zds_X7_found (by decide) zw_296 zw_1 (by decide +kernel)) (
  zcons (zk_reti (pc := 54) rfl (by decide +kernel)) (
  zcons (zk_aload (pc := 55) (by decide +kernel)) (
  zcons (zk_getN (pc := 57) (ci := 4) (j := 2) rfl zinX4 (by decide) zw_242 (by decide +kernel)) (
  zcons (zk_aload (pc := 60) (by decide +kernel)) (
  zcons (zk_getN (pc := 62) (ci := 4) (j := 2) rfl zinX4 (by decide) zw_242 (by decide +kernel)) (
  zcons (zk_iceq (pc := 65) (off := 9) (by decide) (by decide +kernel)) (
  zcons (zk_aload_n (pc := 68) (j := 0) rfl (by decide +kernel)) (
  zcons (zk_iconst (pc := 69) (z := 5) (by decide) (by decide +kernel)) (
  zcons (zk_cvi (pc := 70) 120 rfl (ci := 7) rfl zw_293 zw_295 zsel_X7_found zds_X7_found (by decide) zw_296 zw_1 (by decide +kernel)) (
  zcons (zk_reti (pc := 73) rfl (by decide +kernel)) (
  zcons (zk_aload (pc := 74) (by decide +kernel)) (
  zcons (zk_iload_n (pc := 76) (j := 2) rfl (by decide +kernel)) (
  zcons (zk_iload (pc := 77) (by decide +kernel)) (
  zcons (zk_cviN (pc := 79) 51 rfl (ci := 4) rfl zw_313 zw_315 zsel_X4_reaches zds_X4_reaches (by decide) zw_316 zw_8 (by decide +kernel)) (
  zcons (zk_ifeq (pc := 82) (off := 15) (by decide) (by decide +kernel)) (
  zcons (zk_aload (pc := 85) (by decide +kernel)) (
  zcons (zk_iload (pc := 87) (by decide +kernel)) (
  zcons (zk_iload (pc := 89) (by decide +kernel)) (
  zcons (zk_cviN (pc := 91) 51 rfl (ci := 4) rfl zw_313 zw_315 zsel_X4_reaches zds_X4_reaches (by decide) zw_316 zw_8 (by decide +kernel)) (
  zcons (zk_ifne (pc := 94) (off := 9) (by decide) (by decide +kernel)) (
  zcons (zk_aload_n (pc := 97) (j := 0) rfl (by decide +kernel)) (
  zcons (zk_iconst (pc := 98) (z := 2) (by decide) (by decide +kernel)) (
  zcons (zk_cvi (pc := 99) 120 rfl (ci := 7) rfl zw_293 zw_295 zsel_X7_found zds_X7_found (by decide) zw_296 zw_1 (by decide +kernel)) (
  zcons (zk_reti (pc := 102) rfl (by decide +kernel)) (
  zcons (zk_aload (pc := 103) (by decide +kernel)) (
  zcons (zk_getrN (pc := 105) (ci := 4) (j := 0) rfl zinX4 (by decide) zw_238 (by decide +kernel)) (
  zcons (zk_iload_n (pc := 108) (j := 2) rfl (by decide +kernel)) (
  zcons (zk_aload (pc := 109) (by decide +kernel)) (
  zcons (zk_getrN (pc := 111) (ci := 4) (j := 0) rfl zinX4 (by decide) zw_238 (by decide +kernel)) (
  zcons (zk_iload (pc := 114) (by decide +kernel)) (
  zcons (zk_iload (pc := 116) (by decide +kernel)) (
  zcons (zk_cpy (pc := 118) zw_325 zw_327 zw_326 zw_11 (by decide +kernel)) (
  zcons (zk_aload_n (pc := 121) (j := 0) rfl (by decide +kernel)) (
  zcons (zk_iload (pc := 122) (by decide +kernel)) (
  zcons (zk_cvi (pc := 124) 121 rfl (ci := 7) rfl zw_305 zw_307 zsel_X7_fine zds_X7_fine (by decide) zw_308 zw_1 (by decide +kernel)) (
  zcons (zk_reti (pc := 127) rfl (by decide +kernel)) (znil)))))))))))))))))))))))))))))))))))))))))))))))))))))))))))))))
def tb_X7_drop : List (Nat × ZP) := [(0, zo_il 1 1), (1, zo_csi 126 1 4), (4, zo_ifne 10 7), (7, zo_i (-1000001) 9), (9, zo_reti), (10, zo_al 0 11), (11, zo_getr 7 0 14), (14, zo_il 1 15), (15, zo_aald 3 16), (16, zo_get 4 1 19), (19, zo_ifne 28 22), (22, zo_al 0 23), (23, zo_i 1 24), (24, zo_cvi 7 120 1 27), (27, zo_reti), (28, zo_al 0 29), (29, zo_getr 7 0 32), (32, zo_il 1 33), (33, zo_aald 3 34), (34, zo_i 0 35), (35, zo_putz 4 1 38), (38, zo_al 0 39), (39, zo_al 0 40), (40, zo_getr 7 0 43), (43, zo_il 1 44), (44, zo_aald 3 45), (45, zo_get 4 3 48), (48, zo_cvi 7 121 1 51), (51, zo_reti)]
def cu_X7_drop : List (Nat × List Bool) := []
set_option maxRecDepth 100000 in
set_option maxHeartbeats 4000000 in
theorem ok_X7_drop : ∀ e ∈ tb_X7_drop, ZOK zmt cX7_drop RX7 1 e.1 e.2 :=
  zcons (zk_iload_n (pc := 0) (j := 1) rfl (by decide +kernel)) (
  zcons (zk_csi (pc := 1) 126 rfl zw_289 zw_290 zds_X7_isRow (by decide) zw_291 zw_1 (by decide +kernel)) (
  zcons (zk_ifne (pc := 4) (off := 6) (by decide) (by decide +kernel)) (
  zcons (zk_ldc (pc := 7) zw_292 (by decide +kernel)) (
  zcons (zk_reti (pc := 9) rfl (by decide +kernel)) (
  zcons (zk_aload_n (pc := 10) (j := 0) rfl (by decide +kernel)) (
  zcons (zk_getr (pc := 11) (ci := 7) (j := 0) rfl zinX7 (by decide) zw_254 (by decide +kernel)) (
  zcons (zk_iload_n (pc := 14) (j := 1) rfl (by decide +kernel)) (
  zcons (zk_aaload (pc := 15) (t := 3) (fun _ => rfl) (by decide +kernel)) (
  zcons (zk_getN (pc := 16) (ci := 4) (j := 1) rfl zinX4 (by decide) zw_240 (by decide +kernel)) (
  zcons (zk_ifne (pc := 19) (off := 9) (by decide) (by decide +kernel)) (
  zcons (zk_aload_n (pc := 22) (j := 0) rfl (by decide +kernel)) (
  zcons (zk_iconst (pc := 23) (z := 1) (by decide) (by decide +kernel)) (
  zcons (zk_cvi (pc := 24) 120 rfl (ci := 7) rfl zw_293 zw_295 zsel_X7_found zds_X7_found (by decide) zw_296 zw_1 (by decide +kernel)) (
  zcons (zk_reti (pc := 27) rfl (by decide +kernel)) (
  zcons (zk_aload_n (pc := 28) (j := 0) rfl (by decide +kernel)) (
  zcons (zk_getr (pc := 29) (ci := 7) (j := 0) rfl zinX7 (by decide) zw_254 (by decide +kernel)) (
  zcons (zk_iload_n (pc := 32) (j := 1) rfl (by decide +kernel)) (
  zcons (zk_aaload (pc := 33) (t := 3) (fun _ => rfl) (by decide +kernel)) (
  zcons (zk_iconst (pc := 34) (z := 0) (by decide) (by decide +kernel)) (
  zcons (zk_putzN (pc := 35) (ci := 4) (j := 1) rfl zinX4 (by decide) zw_240 tyX4 tyX4_ok nmX4 rfl (by decide +kernel) (by decide +kernel)) (
  zcons (zk_aload_n (pc := 38) (j := 0) rfl (by decide +kernel)) (
  zcons (zk_aload_n (pc := 39) (j := 0) rfl (by decide +kernel)) (
  zcons (zk_getr (pc := 40) (ci := 7) (j := 0) rfl zinX7 (by decide) zw_254 (by decide +kernel)) (
  zcons (zk_iload_n (pc := 43) (j := 1) rfl (by decide +kernel)) (
  zcons (zk_aaload (pc := 44) (t := 3) (fun _ => rfl) (by decide +kernel)) (
  zcons (zk_getN (pc := 45) (ci := 4) (j := 3) rfl zinX4 (by decide) zw_244 (by decide +kernel)) (
  zcons (zk_cvi (pc := 48) 121 rfl (ci := 7) rfl zw_305 zw_307 zsel_X7_fine zds_X7_fine (by decide) zw_308 zw_1 (by decide +kernel)) (
  zcons (zk_reti (pc := 51) rfl (by decide +kernel)) (znil)))))))))))))))))))))))))))))
def tb_X7_feed : List (Nat × ZP) := [(0, zo_il 1 1), (1, zo_iflt 11 4), (4, zo_il 1 5), (5, zo_i 255 8), (8, zo_icle 14 11), (11, zo_i (-1000001) 13), (13, zo_reti), (14, zo_al 0 15), (15, zo_getr 7 1 18), (18, zo_il 1 19), (19, zo_cvi 3 38 1 22), (22, zo_ifeq 35 25), (25, zo_al 0 26), (26, zo_getr 7 1 29), (29, zo_get 3 1 32), (32, zo_goto 37), (35, zo_i (-1000003) 37), (37, zo_reti)]
def cu_X7_feed : List (Nat × List Bool) := []
set_option maxRecDepth 100000 in
set_option maxHeartbeats 4000000 in
theorem ok_X7_feed : ∀ e ∈ tb_X7_feed, ZOK zmt cX7_feed RX7 1 e.1 e.2 :=
  zcons (zk_iload_n (pc := 0) (j := 1) rfl (by decide +kernel)) (
  zcons (zk_iflt (pc := 1) (off := 10) (by decide) (by decide +kernel)) (
  zcons (zk_iload_n (pc := 4) (j := 1) rfl (by decide +kernel)) (
  zcons (zk_sipush (pc := 5) (z := 255) (by decide) (by decide +kernel)) (
  zcons (zk_icle (pc := 8) (off := 6) (by decide) (by decide +kernel)) (
  zcons (zk_ldc (pc := 11) zw_292 (by decide +kernel)) (
  zcons (zk_reti (pc := 13) rfl (by decide +kernel)) (
  zcons (zk_aload_n (pc := 14) (j := 0) rfl (by decide +kernel)) (
  zcons (zk_getr (pc := 15) (ci := 7) (j := 1) rfl zinX7 (by decide) zw_255 (by decide +kernel)) (
  zcons (zk_iload_n (pc := 18) (j := 1) rfl (by decide +kernel)) (
  zcons (zk_cviN (pc := 19) 38 rfl (ci := 3) rfl zw_336 zw_338 zsel_X3_append zds_X3_append (by decide) zw_339 zw_2 (by decide +kernel)) (
  zcons (zk_ifeq (pc := 22) (off := 13) (by decide) (by decide +kernel)) (
  zcons (zk_aload_n (pc := 25) (j := 0) rfl (by decide +kernel)) (
  zcons (zk_getr (pc := 26) (ci := 7) (j := 1) rfl zinX7 (by decide) zw_255 (by decide +kernel)) (
  zcons (zk_getN (pc := 29) (ci := 3) (j := 1) rfl zinX3 (by decide) zw_32 (by decide +kernel)) (
  zcons (zk_goto (pc := 32) (off := 5) (by decide) (by decide +kernel)) (
  zcons (zk_ldc (pc := 35) zw_340 (by decide +kernel)) (
  zcons (zk_reti (pc := 37) rfl (by decide +kernel)) (znil))))))))))))))))))
def tb_X7_sheet : List (Nat × ZP) := [(0, zo_al 0 1), (1, zo_getr 7 1 4), (4, zo_al 0 5), (5, zo_getr 7 3 8), (8, zo_cvi 3 39 1 11), (11, zo_ifne 25 14), (14, zo_i (-1000100) 16), (16, zo_al 0 17), (17, zo_getr 7 1 20), (20, zo_get 3 3 23), (23, zo_bin (· - ·) 24), (24, zo_reti), (25, zo_al 0 26), (26, zo_al 0 27), (27, zo_getr 7 3 30), (30, zo_cvv 7 131 1 33), (33, zo_al 0 34), (34, zo_getr 7 2 37), (37, zo_get 5 1 40), (40, zo_reti)]
def cu_X7_sheet : List (Nat × List Bool) := []
set_option maxRecDepth 100000 in
set_option maxHeartbeats 4000000 in
theorem ok_X7_sheet : ∀ e ∈ tb_X7_sheet, ZOK zmt cX7_sheet RX7 1 e.1 e.2 :=
  zcons (zk_aload_n (pc := 0) (j := 0) rfl (by decide +kernel)) (
  zcons (zk_getr (pc := 1) (ci := 7) (j := 1) rfl zinX7 (by decide) zw_255 (by decide +kernel)) (
  zcons (zk_aload_n (pc := 4) (j := 0) rfl (by decide +kernel)) (
  zcons (zk_getr (pc := 5) (ci := 7) (j := 3) rfl zinX7 (by decide) zw_257 (by decide +kernel)) (
  zcons (zk_cviN (pc := 8) 39 rfl (ci := 3) rfl zw_345 zw_347 zsel_X3_read zds_X3_read (by decide) zw_348 zw_2 (by decide +kernel)) (
  zcons (zk_ifne (pc := 11) (off := 14) (by decide) (by decide +kernel)) (
  zcons (zk_ldc (pc := 14) zw_408 (by decide +kernel)) (
  zcons (zk_aload_n (pc := 16) (j := 0) rfl (by decide +kernel)) (
  zcons (zk_getr (pc := 17) (ci := 7) (j := 1) rfl zinX7 (by decide) zw_255 (by decide +kernel)) (
  zcons (zk_getN (pc := 20) (ci := 3) (j := 3) rfl zinX3 (by decide) zw_35 (by decide +kernel)) (
  zcons (zk_isub (pc := 23) (by decide +kernel)) (
  zcons (zk_reti (pc := 24) rfl (by decide +kernel)) (
  zcons (zk_aload_n (pc := 25) (j := 0) rfl (by decide +kernel)) (
  zcons (zk_aload_n (pc := 26) (j := 0) rfl (by decide +kernel)) (
  zcons (zk_getr (pc := 27) (ci := 7) (j := 3) rfl zinX7 (by decide) zw_257 (by decide +kernel)) (
  zcons (zk_cvv (pc := 30) 131 rfl (ci := 7) rfl zw_409 zw_411 zsel_X7_putInPlace zds_X7_putInPlace (by decide) zw_412 zw_1 (by decide +kernel)) (
  zcons (zk_aload_n (pc := 33) (j := 0) rfl (by decide +kernel)) (
  zcons (zk_getr (pc := 34) (ci := 7) (j := 2) rfl zinX7 (by decide) zw_256 (by decide +kernel)) (
  zcons (zk_getN (pc := 37) (ci := 5) (j := 1) rfl zinX5 (by decide) zw_67 (by decide +kernel)) (
  zcons (zk_reti (pc := 40) rfl (by decide +kernel)) (znil))))))))))))))))))))
def tb_X7_fault : List (Nat × ZP) := [(0, zo_al 0 1), (1, zo_getr 7 1 4), (4, zo_get 3 6 7), (7, zo_reti)]
def cu_X7_fault : List (Nat × List Bool) := []
set_option maxRecDepth 100000 in
set_option maxHeartbeats 4000000 in
theorem ok_X7_fault : ∀ e ∈ tb_X7_fault, ZOK zmt cX7_fault RX7 1 e.1 e.2 :=
  zcons (zk_aload_n (pc := 0) (j := 0) rfl (by decide +kernel)) (
  zcons (zk_getr (pc := 1) (ci := 7) (j := 1) rfl zinX7 (by decide) zw_255 (by decide +kernel)) (
  zcons (zk_getN (pc := 4) (ci := 3) (j := 6) rfl zinX3 (by decide) zw_39 (by decide +kernel)) (
  zcons (zk_reti (pc := 7) rfl (by decide +kernel)) (znil))))
def tb_X7_undo : List (Nat × ZP) := [(0, zo_al 0 1), (1, zo_getr 7 5 4), (4, zo_get 0 4 7), (7, zo_ifne 13 10), (10, zo_i (-1000002) 12), (12, zo_reti), (13, zo_al 0 14), (14, zo_getr 7 5 17), (17, zo_al 0 18), (18, zo_getr 7 2 21), (21, zo_cvv 0 1 1 24), (24, zo_al 0 25), (25, zo_getr 7 5 28), (28, zo_get 0 4 31), (31, zo_reti)]
def cu_X7_undo : List (Nat × List Bool) := []
set_option maxRecDepth 100000 in
set_option maxHeartbeats 4000000 in
theorem ok_X7_undo : ∀ e ∈ tb_X7_undo, ZOK zmt cX7_undo RX7 1 e.1 e.2 :=
  zcons (zk_aload_n (pc := 0) (j := 0) rfl (by decide +kernel)) (
  zcons (zk_getr (pc := 1) (ci := 7) (j := 5) rfl zinX7 (by decide) zw_259 (by decide +kernel)) (
  zcons (zk_getN (pc := 4) (ci := 0) (j := 4) rfl zinX0 (by decide) zw_143 (by decide +kernel)) (
  zcons (zk_ifne (pc := 7) (off := 6) (by decide) (by decide +kernel)) (
  zcons (zk_ldc (pc := 10) zw_440 (by decide +kernel)) (
  zcons (zk_reti (pc := 12) rfl (by decide +kernel)) (
  zcons (zk_aload_n (pc := 13) (j := 0) rfl (by decide +kernel)) (
  zcons (zk_getr (pc := 14) (ci := 7) (j := 5) rfl zinX7 (by decide) zw_259 (by decide +kernel)) (
  zcons (zk_aload_n (pc := 17) (j := 0) rfl (by decide +kernel)) (
  zcons (zk_getr (pc := 18) (ci := 7) (j := 2) rfl zinX7 (by decide) zw_256 (by decide +kernel)) (
  zcons (zk_cvvN (pc := 21) 1 rfl (ci := 0) rfl zw_441 zw_443 zsel_X0_takeBackLatest zds_X0_takeBackLatest (by decide) zw_444 zw_4 (by decide +kernel)) (
  zcons (zk_aload_n (pc := 24) (j := 0) rfl (by decide +kernel)) (
  zcons (zk_getr (pc := 25) (ci := 7) (j := 5) rfl zinX7 (by decide) zw_259 (by decide +kernel)) (
  zcons (zk_getN (pc := 28) (ci := 0) (j := 4) rfl zinX0 (by decide) zw_143 (by decide +kernel)) (
  zcons (zk_reti (pc := 31) rfl (by decide +kernel)) (znil)))))))))))))))
def tb_X7_serve : List (Nat × ZP) := [(0, zo_al 0 1), (1, zo_il 1 2), (2, zo_cvi 7 125 1 5), (5, zo_ifeq 23 8), (8, zo_al 0 9), (9, zo_getr 7 6 12), (12, zo_al 0 13), (13, zo_getr 7 2 16), (16, zo_il 2 17), (17, zo_cvi 2 12 2 20), (20, zo_ifne 26 23), (23, zo_i (-1000001) 25), (25, zo_reti), (26, zo_al 0 27), (27, zo_getr 7 2 30), (30, zo_il 1 31), (31, zo_cvi 5 63 1 34), (34, zo_ifne 56 37), (37, zo_al 0 38), (38, zo_getr 7 2 41), (41, zo_il 1 42), (42, zo_al 0 43), (43, zo_getr 7 2 46), (46, zo_il 2 47), (47, zo_cvi 5 68 1 50), (50, zo_cvi 5 64 2 53), (53, zo_ifne 59 56), (56, zo_i (-1000002) 58), (58, zo_reti), (59, zo_al 0 60), (60, zo_getr 7 2 63), (63, zo_il 2 64), (64, zo_cvi 5 70 1 67), (67, zo_is 3 68), (68, zo_al 0 69), (69, zo_getr 7 2 72), (72, zo_il 1 73), (73, zo_il 2 74), (74, zo_il 3 75), (75, zo_cvv 5 58 3 78), (78, zo_al 0 79), (79, zo_getr 7 5 82), (82, zo_i 0 83), (83, zo_il 1 84), (84, zo_il 3 85), (85, zo_cvv 0 0 3 88), (88, zo_il 3 89), (89, zo_reti)]
def cu_X7_serve : List (Nat × List Bool) := []
set_option maxRecDepth 100000 in
set_option maxHeartbeats 4000000 in
theorem ok_X7_serve : ∀ e ∈ tb_X7_serve, ZOK zmt cX7_serve RX7 1 e.1 e.2 :=
  zcons (zk_aload_n (pc := 0) (j := 0) rfl (by decide +kernel)) (
  zcons (zk_iload_n (pc := 1) (j := 1) rfl (by decide +kernel)) (
  zcons (zk_cvi (pc := 2) 125 rfl (ci := 7) rfl zw_457 zw_459 zsel_X7_isCustomer zds_X7_isCustomer (by decide) zw_460 zw_1 (by decide +kernel)) (
  zcons (zk_ifeq (pc := 5) (off := 18) (by decide) (by decide +kernel)) (
  zcons (zk_aload_n (pc := 8) (j := 0) rfl (by decide +kernel)) (
  zcons (zk_getr (pc := 9) (ci := 7) (j := 6) rfl zinX7 (by decide) zw_260 (by decide +kernel)) (
  zcons (zk_aload_n (pc := 12) (j := 0) rfl (by decide +kernel)) (
  zcons (zk_getr (pc := 13) (ci := 7) (j := 2) rfl zinX7 (by decide) zw_256 (by decide +kernel)) (
  zcons (zk_iload_n (pc := 16) (j := 2) rfl (by decide +kernel)) (
  zcons (zk_cviN (pc := 17) 12 rfl (ci := 2) rfl zw_461 zw_463 zsel_X2_isPiece zds_X2_isPiece (by decide) zw_464 zw_5 (by decide +kernel)) (
  zcons (zk_ifne (pc := 20) (off := 6) (by decide) (by decide +kernel)) (
  zcons (zk_ldc (pc := 23) zw_292 (by decide +kernel)) (
  zcons (zk_reti (pc := 25) rfl (by decide +kernel)) (
  zcons (zk_aload_n (pc := 26) (j := 0) rfl (by decide +kernel)) (
  zcons (zk_getr (pc := 27) (ci := 7) (j := 2) rfl zinX7 (by decide) zw_256 (by decide +kernel)) (
  zcons (zk_iload_n (pc := 30) (j := 1) rfl (by decide +kernel)) (
  zcons (zk_cviN (pc := 31) 63 rfl (ci := 5) rfl zw_469 zw_471 zsel_X5_isServed zds_X5_isServed (by decide) zw_472 zw_3 (by decide +kernel)) (
  zcons (zk_ifne (pc := 34) (off := 22) (by decide) (by decide +kernel)) (
  zcons (zk_aload_n (pc := 37) (j := 0) rfl (by decide +kernel)) (
  zcons (zk_getr (pc := 38) (ci := 7) (j := 2) rfl zinX7 (by decide) zw_256 (by decide +kernel)) (
  zcons (zk_iload_n (pc := 41) (j := 1) rfl (by decide +kernel)) (
  zcons (zk_aload_n (pc := 42) (j := 0) rfl (by decide +kernel)) (
  zcons (zk_getr (pc := 43) (ci := 7) (j := 2) rfl zinX7 (by decide) zw_256 (by decide +kernel)) (
  zcons (zk_iload_n (pc := 46) (j := 2) rfl (by decide +kernel)) (
  zcons (zk_cviN (pc := 47) 68 rfl (ci := 5) rfl zw_473 zw_475 zsel_X5_paysOf zds_X5_paysOf (by decide) zw_476 zw_3 (by decide +kernel)) (
  zcons (zk_cviN (pc := 50) 64 rfl (ci := 5) rfl zw_482 zw_484 zsel_X5_suits zds_X5_suits (by decide) zw_485 zw_3 (by decide +kernel)) (
  zcons (zk_ifne (pc := 53) (off := 6) (by decide) (by decide +kernel)) (
  zcons (zk_ldc (pc := 56) zw_440 (by decide +kernel)) (
  zcons (zk_reti (pc := 58) rfl (by decide +kernel)) (
  zcons (zk_aload_n (pc := 59) (j := 0) rfl (by decide +kernel)) (
  zcons (zk_getr (pc := 60) (ci := 7) (j := 2) rfl zinX7 (by decide) zw_256 (by decide +kernel)) (
  zcons (zk_iload_n (pc := 63) (j := 2) rfl (by decide +kernel)) (
  zcons (zk_cviN (pc := 64) 70 rfl (ci := 5) rfl zw_486 zw_488 zsel_X5_tearsOf zds_X5_tearsOf (by decide) zw_489 zw_3 (by decide +kernel)) (
  zcons (zk_istore_n (pc := 67) (j := 3) rfl (by decide +kernel)) (
  zcons (zk_aload_n (pc := 68) (j := 0) rfl (by decide +kernel)) (
  zcons (zk_getr (pc := 69) (ci := 7) (j := 2) rfl zinX7 (by decide) zw_256 (by decide +kernel)) (
  zcons (zk_iload_n (pc := 72) (j := 1) rfl (by decide +kernel)) (
  zcons (zk_iload_n (pc := 73) (j := 2) rfl (by decide +kernel)) (
  zcons (zk_iload_n (pc := 74) (j := 3) rfl (by decide +kernel)) (
  zcons (zk_cvvN (pc := 75) 58 rfl (ci := 5) rfl zw_490 zw_451 zsel_X5_sell zds_X5_sell (by decide) zw_452 zw_3 (by decide +kernel)) (
  zcons (zk_aload_n (pc := 78) (j := 0) rfl (by decide +kernel)) (
  zcons (zk_getr (pc := 79) (ci := 7) (j := 5) rfl zinX7 (by decide) zw_259 (by decide +kernel)) (
  zcons (zk_iconst (pc := 82) (z := 0) (by decide) (by decide +kernel)) (
  zcons (zk_iload_n (pc := 83) (j := 1) rfl (by decide +kernel)) (
  zcons (zk_iload_n (pc := 84) (j := 3) rfl (by decide +kernel)) (
  zcons (zk_cvvN (pc := 85) 0 rfl (ci := 0) rfl zw_491 zw_493 zsel_X0_keep zds_X0_keep (by decide) zw_494 zw_4 (by decide +kernel)) (
  zcons (zk_iload_n (pc := 88) (j := 3) rfl (by decide +kernel)) (
  zcons (zk_reti (pc := 89) rfl (by decide +kernel)) (znil))))))))))))))))))))))))))))))))))))))))))))))))
def tb_X7_bringBack : List (Nat × ZP) := [(0, zo_al 0 1), (1, zo_il 1 2), (2, zo_cvi 7 125 1 5), (5, zo_ifne 11 8), (8, zo_i (-1000001) 10), (10, zo_reti), (11, zo_al 0 12), (12, zo_getr 7 2 15), (15, zo_il 1 16), (16, zo_cvi 5 63 1 19), (19, zo_ifne 25 22), (22, zo_i (-1000002) 24), (24, zo_reti), (25, zo_al 0 26), (26, zo_getr 7 2 29), (29, zo_getr 5 13 32), (32, zo_il 1 33), (33, zo_iald 34), (34, zo_is 2 35), (35, zo_al 0 36), (36, zo_getr 7 2 39), (39, zo_il 1 40), (40, zo_cvv 5 59 1 43), (43, zo_al 0 44), (44, zo_getr 7 5 47), (47, zo_i 1 48), (48, zo_il 1 49), (49, zo_il 2 50), (50, zo_cvv 0 0 3 53), (53, zo_al 0 54), (54, zo_getr 7 2 57), (57, zo_il 2 58), (58, zo_cvi 5 68 1 61), (61, zo_reti)]
def cu_X7_bringBack : List (Nat × List Bool) := []
set_option maxRecDepth 100000 in
set_option maxHeartbeats 4000000 in
theorem ok_X7_bringBack : ∀ e ∈ tb_X7_bringBack, ZOK zmt cX7_bringBack RX7 1 e.1 e.2 :=
  zcons (zk_aload_n (pc := 0) (j := 0) rfl (by decide +kernel)) (
  zcons (zk_iload_n (pc := 1) (j := 1) rfl (by decide +kernel)) (
  zcons (zk_cvi (pc := 2) 125 rfl (ci := 7) rfl zw_457 zw_459 zsel_X7_isCustomer zds_X7_isCustomer (by decide) zw_460 zw_1 (by decide +kernel)) (
  zcons (zk_ifne (pc := 5) (off := 6) (by decide) (by decide +kernel)) (
  zcons (zk_ldc (pc := 8) zw_292 (by decide +kernel)) (
  zcons (zk_reti (pc := 10) rfl (by decide +kernel)) (
  zcons (zk_aload_n (pc := 11) (j := 0) rfl (by decide +kernel)) (
  zcons (zk_getr (pc := 12) (ci := 7) (j := 2) rfl zinX7 (by decide) zw_256 (by decide +kernel)) (
  zcons (zk_iload_n (pc := 15) (j := 1) rfl (by decide +kernel)) (
  zcons (zk_cviN (pc := 16) 63 rfl (ci := 5) rfl zw_469 zw_471 zsel_X5_isServed zds_X5_isServed (by decide) zw_472 zw_3 (by decide +kernel)) (
  zcons (zk_ifne (pc := 19) (off := 6) (by decide) (by decide +kernel)) (
  zcons (zk_ldc (pc := 22) zw_440 (by decide +kernel)) (
  zcons (zk_reti (pc := 24) rfl (by decide +kernel)) (
  zcons (zk_aload_n (pc := 25) (j := 0) rfl (by decide +kernel)) (
  zcons (zk_getr (pc := 26) (ci := 7) (j := 2) rfl zinX7 (by decide) zw_256 (by decide +kernel)) (
  zcons (zk_getrN (pc := 29) (ci := 5) (j := 13) rfl zinX5 (by decide) zw_101 (by decide +kernel)) (
  zcons (zk_iload_n (pc := 32) (j := 1) rfl (by decide +kernel)) (
  zcons (zk_iaload (pc := 33) (by decide +kernel)) (
  zcons (zk_istore_n (pc := 34) (j := 2) rfl (by decide +kernel)) (
  zcons (zk_aload_n (pc := 35) (j := 0) rfl (by decide +kernel)) (
  zcons (zk_getr (pc := 36) (ci := 7) (j := 2) rfl zinX7 (by decide) zw_256 (by decide +kernel)) (
  zcons (zk_iload_n (pc := 39) (j := 1) rfl (by decide +kernel)) (
  zcons (zk_cvvN (pc := 40) 59 rfl (ci := 5) rfl zw_500 zw_447 zsel_X5_takeBack zds_X5_takeBack (by decide) zw_448 zw_3 (by decide +kernel)) (
  zcons (zk_aload_n (pc := 43) (j := 0) rfl (by decide +kernel)) (
  zcons (zk_getr (pc := 44) (ci := 7) (j := 5) rfl zinX7 (by decide) zw_259 (by decide +kernel)) (
  zcons (zk_iconst (pc := 47) (z := 1) (by decide) (by decide +kernel)) (
  zcons (zk_iload_n (pc := 48) (j := 1) rfl (by decide +kernel)) (
  zcons (zk_iload_n (pc := 49) (j := 2) rfl (by decide +kernel)) (
  zcons (zk_cvvN (pc := 50) 0 rfl (ci := 0) rfl zw_491 zw_493 zsel_X0_keep zds_X0_keep (by decide) zw_494 zw_4 (by decide +kernel)) (
  zcons (zk_aload_n (pc := 53) (j := 0) rfl (by decide +kernel)) (
  zcons (zk_getr (pc := 54) (ci := 7) (j := 2) rfl zinX7 (by decide) zw_256 (by decide +kernel)) (
  zcons (zk_iload_n (pc := 57) (j := 2) rfl (by decide +kernel)) (
  zcons (zk_cviN (pc := 58) 68 rfl (ci := 5) rfl zw_473 zw_475 zsel_X5_paysOf zds_X5_paysOf (by decide) zw_476 zw_3 (by decide +kernel)) (
  zcons (zk_reti (pc := 61) rfl (by decide +kernel)) (znil))))))))))))))))))))))))))))))))))
def tb_X7_spoil : List (Nat × ZP) := [(0, zo_al 0 1), (1, zo_il 1 2), (2, zo_cvi 7 123 1 5), (5, zo_ifne 11 8), (8, zo_i (-1000001) 10), (10, zo_reti), (11, zo_al 0 12), (12, zo_getr 7 2 15), (15, zo_il 1 16), (16, zo_cvi 5 61 1 19), (19, zo_ifne 25 22), (22, zo_i (-1000002) 24), (24, zo_reti), (25, zo_al 0 26), (26, zo_getr 7 2 29), (29, zo_il 1 30), (30, zo_cvv 5 60 1 33), (33, zo_al 0 34), (34, zo_getr 7 5 37), (37, zo_i 2 38), (38, zo_il 1 39), (39, zo_i 0 40), (40, zo_cvv 0 0 3 43), (43, zo_al 0 44), (44, zo_getr 7 2 47), (47, zo_get 5 5 50), (50, zo_csi 233 1 53), (53, zo_reti)]
def cu_X7_spoil : List (Nat × List Bool) := []
set_option maxRecDepth 100000 in
set_option maxHeartbeats 4000000 in
theorem ok_X7_spoil : ∀ e ∈ tb_X7_spoil, ZOK zmt cX7_spoil RX7 1 e.1 e.2 :=
  zcons (zk_aload_n (pc := 0) (j := 0) rfl (by decide +kernel)) (
  zcons (zk_iload_n (pc := 1) (j := 1) rfl (by decide +kernel)) (
  zcons (zk_cvi (pc := 2) 123 rfl (ci := 7) rfl zw_505 zw_507 zsel_X7_isCell zds_X7_isCell (by decide) zw_508 zw_1 (by decide +kernel)) (
  zcons (zk_ifne (pc := 5) (off := 6) (by decide) (by decide +kernel)) (
  zcons (zk_ldc (pc := 8) zw_292 (by decide +kernel)) (
  zcons (zk_reti (pc := 10) rfl (by decide +kernel)) (
  zcons (zk_aload_n (pc := 11) (j := 0) rfl (by decide +kernel)) (
  zcons (zk_getr (pc := 12) (ci := 7) (j := 2) rfl zinX7 (by decide) zw_256 (by decide +kernel)) (
  zcons (zk_iload_n (pc := 15) (j := 1) rfl (by decide +kernel)) (
  zcons (zk_cviN (pc := 16) 61 rfl (ci := 5) rfl zw_509 zw_511 zsel_X5_isOn zds_X5_isOn (by decide) zw_512 zw_3 (by decide +kernel)) (
  zcons (zk_ifne (pc := 19) (off := 6) (by decide) (by decide +kernel)) (
  zcons (zk_ldc (pc := 22) zw_440 (by decide +kernel)) (
  zcons (zk_reti (pc := 24) rfl (by decide +kernel)) (
  zcons (zk_aload_n (pc := 25) (j := 0) rfl (by decide +kernel)) (
  zcons (zk_getr (pc := 26) (ci := 7) (j := 2) rfl zinX7 (by decide) zw_256 (by decide +kernel)) (
  zcons (zk_iload_n (pc := 29) (j := 1) rfl (by decide +kernel)) (
  zcons (zk_cvvN (pc := 30) 60 rfl (ci := 5) rfl zw_513 zw_515 zsel_X5_lose zds_X5_lose (by decide) zw_516 zw_3 (by decide +kernel)) (
  zcons (zk_aload_n (pc := 33) (j := 0) rfl (by decide +kernel)) (
  zcons (zk_getr (pc := 34) (ci := 7) (j := 5) rfl zinX7 (by decide) zw_259 (by decide +kernel)) (
  zcons (zk_iconst (pc := 37) (z := 2) (by decide) (by decide +kernel)) (
  zcons (zk_iload_n (pc := 38) (j := 1) rfl (by decide +kernel)) (
  zcons (zk_iconst (pc := 39) (z := 0) (by decide) (by decide +kernel)) (
  zcons (zk_cvvN (pc := 40) 0 rfl (ci := 0) rfl zw_491 zw_493 zsel_X0_keep zds_X0_keep (by decide) zw_494 zw_4 (by decide +kernel)) (
  zcons (zk_aload_n (pc := 43) (j := 0) rfl (by decide +kernel)) (
  zcons (zk_getr (pc := 44) (ci := 7) (j := 2) rfl zinX7 (by decide) zw_256 (by decide +kernel)) (
  zcons (zk_getN (pc := 47) (ci := 5) (j := 5) rfl zinX5 (by decide) zw_80 (by decide +kernel)) (
  zcons (zk_csi (pc := 50) 233 rfl zw_517 zw_423 zds_J6_bitCount_0f7a4 (by decide) zw_424 zw_13 (by decide +kernel)) (
  zcons (zk_reti (pc := 53) rfl (by decide +kernel)) (znil))))))))))))))))))))))))))))
def tb_X7_value : List (Nat × ZP) := [(0, zo_al 0 1), (1, zo_il 1 2), (2, zo_cvi 7 123 1 5), (5, zo_ifeq 15 8), (8, zo_il 2 9), (9, zo_csi 127 1 12), (12, zo_ifne 18 15), (15, zo_i (-1000001) 17), (17, zo_reti), (18, zo_al 0 19), (19, zo_getr 7 2 22), (22, zo_getr 5 10 25), (25, zo_il 1 26), (26, zo_iald 27), (27, zo_is 3 28), (28, zo_al 0 29), (29, zo_getr 7 2 32), (32, zo_getr 5 10 35), (35, zo_il 1 36), (36, zo_il 2 37), (37, zo_iast 38), (38, zo_al 0 39), (39, zo_getr 7 5 42), (42, zo_i 3 43), (43, zo_il 1 44), (44, zo_il 3 45), (45, zo_cvv 0 0 3 48), (48, zo_il 3 49), (49, zo_reti)]
def cu_X7_value : List (Nat × List Bool) := []
set_option maxRecDepth 100000 in
set_option maxHeartbeats 4000000 in
theorem ok_X7_value : ∀ e ∈ tb_X7_value, ZOK zmt cX7_value RX7 1 e.1 e.2 :=
  zcons (zk_aload_n (pc := 0) (j := 0) rfl (by decide +kernel)) (
  zcons (zk_iload_n (pc := 1) (j := 1) rfl (by decide +kernel)) (
  zcons (zk_cvi (pc := 2) 123 rfl (ci := 7) rfl zw_505 zw_507 zsel_X7_isCell zds_X7_isCell (by decide) zw_508 zw_1 (by decide +kernel)) (
  zcons (zk_ifeq (pc := 5) (off := 10) (by decide) (by decide +kernel)) (
  zcons (zk_iload_n (pc := 8) (j := 2) rfl (by decide +kernel)) (
  zcons (zk_csi (pc := 9) 127 rfl zw_522 zw_523 zds_X7_isFigure (by decide) zw_524 zw_1 (by decide +kernel)) (
  zcons (zk_ifne (pc := 12) (off := 6) (by decide) (by decide +kernel)) (
  zcons (zk_ldc (pc := 15) zw_292 (by decide +kernel)) (
  zcons (zk_reti (pc := 17) rfl (by decide +kernel)) (
  zcons (zk_aload_n (pc := 18) (j := 0) rfl (by decide +kernel)) (
  zcons (zk_getr (pc := 19) (ci := 7) (j := 2) rfl zinX7 (by decide) zw_256 (by decide +kernel)) (
  zcons (zk_getrN (pc := 22) (ci := 5) (j := 10) rfl zinX5 (by decide) zw_95 (by decide +kernel)) (
  zcons (zk_iload_n (pc := 25) (j := 1) rfl (by decide +kernel)) (
  zcons (zk_iaload (pc := 26) (by decide +kernel)) (
  zcons (zk_istore_n (pc := 27) (j := 3) rfl (by decide +kernel)) (
  zcons (zk_aload_n (pc := 28) (j := 0) rfl (by decide +kernel)) (
  zcons (zk_getr (pc := 29) (ci := 7) (j := 2) rfl zinX7 (by decide) zw_256 (by decide +kernel)) (
  zcons (zk_getrN (pc := 32) (ci := 5) (j := 10) rfl zinX5 (by decide) zw_95 (by decide +kernel)) (
  zcons (zk_iload_n (pc := 35) (j := 1) rfl (by decide +kernel)) (
  zcons (zk_iload_n (pc := 36) (j := 2) rfl (by decide +kernel)) (
  zcons (zk_iastore (pc := 37) (by decide +kernel)) (
  zcons (zk_aload_n (pc := 38) (j := 0) rfl (by decide +kernel)) (
  zcons (zk_getr (pc := 39) (ci := 7) (j := 5) rfl zinX7 (by decide) zw_259 (by decide +kernel)) (
  zcons (zk_iconst (pc := 42) (z := 3) (by decide) (by decide +kernel)) (
  zcons (zk_iload_n (pc := 43) (j := 1) rfl (by decide +kernel)) (
  zcons (zk_iload_n (pc := 44) (j := 3) rfl (by decide +kernel)) (
  zcons (zk_cvvN (pc := 45) 0 rfl (ci := 0) rfl zw_491 zw_493 zsel_X0_keep zds_X0_keep (by decide) zw_494 zw_4 (by decide +kernel)) (
  zcons (zk_iload_n (pc := 48) (j := 3) rfl (by decide +kernel)) (
  zcons (zk_reti (pc := 49) rfl (by decide +kernel)) (znil)))))))))))))))))))))))))))))
def tb_X7_over : List (Nat × ZP) := [(0, zo_al 0 1), (1, zo_cvi 7 122 0 4), (4, zo_ifne 10 7), (7, zo_i (-1000002) 9), (9, zo_reti), (10, zo_il 1 11), (11, zo_csi 127 1 14), (14, zo_ifne 20 17), (17, zo_i (-1000001) 19), (19, zo_reti), (20, zo_al 0 21), (21, zo_getr 7 2 24), (24, zo_get 5 3 27), (27, zo_is 2 28), (28, zo_al 0 29), (29, zo_getr 7 2 32), (32, zo_il 1 33), (33, zo_put 5 3 36), (36, zo_al 0 37), (37, zo_getr 7 5 40), (40, zo_i 4 41), (41, zo_i 0 42), (42, zo_il 2 43), (43, zo_cvv 0 0 3 46), (46, zo_il 2 47), (47, zo_reti)]
def cu_X7_over : List (Nat × List Bool) := []
set_option maxRecDepth 100000 in
set_option maxHeartbeats 4000000 in
theorem ok_X7_over : ∀ e ∈ tb_X7_over, ZOK zmt cX7_over RX7 1 e.1 e.2 :=
  zcons (zk_aload_n (pc := 0) (j := 0) rfl (by decide +kernel)) (
  zcons (zk_cvi (pc := 1) 122 rfl (ci := 7) rfl zw_529 zw_531 zsel_X7_isThere zds_X7_isThere (by decide) zw_532 zw_1 (by decide +kernel)) (
  zcons (zk_ifne (pc := 4) (off := 6) (by decide) (by decide +kernel)) (
  zcons (zk_ldc (pc := 7) zw_440 (by decide +kernel)) (
  zcons (zk_reti (pc := 9) rfl (by decide +kernel)) (
  zcons (zk_iload_n (pc := 10) (j := 1) rfl (by decide +kernel)) (
  zcons (zk_csi (pc := 11) 127 rfl zw_522 zw_523 zds_X7_isFigure (by decide) zw_524 zw_1 (by decide +kernel)) (
  zcons (zk_ifne (pc := 14) (off := 6) (by decide) (by decide +kernel)) (
  zcons (zk_ldc (pc := 17) zw_292 (by decide +kernel)) (
  zcons (zk_reti (pc := 19) rfl (by decide +kernel)) (
  zcons (zk_aload_n (pc := 20) (j := 0) rfl (by decide +kernel)) (
  zcons (zk_getr (pc := 21) (ci := 7) (j := 2) rfl zinX7 (by decide) zw_256 (by decide +kernel)) (
  zcons (zk_getN (pc := 24) (ci := 5) (j := 3) rfl zinX5 (by decide) zw_74 (by decide +kernel)) (
  zcons (zk_istore_n (pc := 27) (j := 2) rfl (by decide +kernel)) (
  zcons (zk_aload_n (pc := 28) (j := 0) rfl (by decide +kernel)) (
  zcons (zk_getr (pc := 29) (ci := 7) (j := 2) rfl zinX7 (by decide) zw_256 (by decide +kernel)) (
  zcons (zk_iload_n (pc := 32) (j := 1) rfl (by decide +kernel)) (
  zcons (zk_putN (pc := 33) (ci := 5) (j := 3) rfl zinX5 (by decide) zw_74 tyX5 tyX5_ok nmX5 rfl (by decide +kernel) (by decide +kernel)) (
  zcons (zk_aload_n (pc := 36) (j := 0) rfl (by decide +kernel)) (
  zcons (zk_getr (pc := 37) (ci := 7) (j := 5) rfl zinX7 (by decide) zw_259 (by decide +kernel)) (
  zcons (zk_iconst (pc := 40) (z := 4) (by decide) (by decide +kernel)) (
  zcons (zk_iconst (pc := 41) (z := 0) (by decide) (by decide +kernel)) (
  zcons (zk_iload_n (pc := 42) (j := 2) rfl (by decide +kernel)) (
  zcons (zk_cvvN (pc := 43) 0 rfl (ci := 0) rfl zw_491 zw_493 zsel_X0_keep zds_X0_keep (by decide) zw_494 zw_4 (by decide +kernel)) (
  zcons (zk_iload_n (pc := 46) (j := 2) rfl (by decide +kernel)) (
  zcons (zk_reti (pc := 47) rfl (by decide +kernel)) (znil))))))))))))))))))))))))))
def tb_X7_cell : List (Nat × ZP) := [(0, zo_al 0 1), (1, zo_il 1 2), (2, zo_cvi 7 123 1 5), (5, zo_ifne 11 8), (8, zo_i (-1000001) 10), (10, zo_reti), (11, zo_il 2 12), (12, zo_sw [(0, 44), (1, 54), (2, 63), (3, 81)] 90), (44, zo_al 0 45), (45, zo_getr 7 2 48), (48, zo_getr 5 10 51), (51, zo_il 1 52), (52, zo_iald 53), (53, zo_reti), (54, zo_al 0 55), (55, zo_getr 7 2 58), (58, zo_il 1 59), (59, zo_cvi 5 66 1 62), (62, zo_reti), (63, zo_al 0 64), (64, zo_getr 7 2 67), (67, zo_getr 5 8 70), (70, zo_il 1 71), (71, zo_iald 72), (72, zo_al 0 73), (73, zo_getr 7 2 76), (76, zo_get 5 5 79), (79, zo_bin (· &&& ·) 80), (80, zo_reti), (81, zo_al 0 82), (82, zo_getr 7 2 85), (85, zo_il 1 86), (86, zo_cvi 5 67 1 89), (89, zo_reti), (90, zo_i (-1000001) 92), (92, zo_reti)]
def cu_X7_cell : List (Nat × List Bool) := []
set_option maxRecDepth 100000 in
set_option maxHeartbeats 4000000 in
theorem ok_X7_cell : ∀ e ∈ tb_X7_cell, ZOK zmt cX7_cell RX7 1 e.1 e.2 :=
  zcons (zk_aload_n (pc := 0) (j := 0) rfl (by decide +kernel)) (
  zcons (zk_iload_n (pc := 1) (j := 1) rfl (by decide +kernel)) (
  zcons (zk_cvi (pc := 2) 123 rfl (ci := 7) rfl zw_505 zw_507 zsel_X7_isCell zds_X7_isCell (by decide) zw_508 zw_1 (by decide +kernel)) (
  zcons (zk_ifne (pc := 5) (off := 6) (by decide) (by decide +kernel)) (
  zcons (zk_ldc (pc := 8) zw_292 (by decide +kernel)) (
  zcons (zk_reti (pc := 10) rfl (by decide +kernel)) (
  zcons (zk_iload_n (pc := 11) (j := 2) rfl (by decide +kernel)) (
  zcons (zk_table (pc := 12) (dflt := 78) (lw := 0) (hi := 3) (offs := #[32, 42, 51, 69]) (len := 32) (by decide +kernel) (by decide +kernel)) (
  zcons (zk_aload_n (pc := 44) (j := 0) rfl (by decide +kernel)) (
  zcons (zk_getr (pc := 45) (ci := 7) (j := 2) rfl zinX7 (by decide) zw_256 (by decide +kernel)) (
  zcons (zk_getrN (pc := 48) (ci := 5) (j := 10) rfl zinX5 (by decide) zw_95 (by decide +kernel)) (
  zcons (zk_iload_n (pc := 51) (j := 1) rfl (by decide +kernel)) (
  zcons (zk_iaload (pc := 52) (by decide +kernel)) (
  zcons (zk_reti (pc := 53) rfl (by decide +kernel)) (
  zcons (zk_aload_n (pc := 54) (j := 0) rfl (by decide +kernel)) (
  zcons (zk_getr (pc := 55) (ci := 7) (j := 2) rfl zinX7 (by decide) zw_256 (by decide +kernel)) (
  zcons (zk_iload_n (pc := 58) (j := 1) rfl (by decide +kernel)) (
  zcons (zk_cviN (pc := 59) 66 rfl (ci := 5) rfl zw_537 zw_539 zsel_X5_howIs zds_X5_howIs (by decide) zw_540 zw_3 (by decide +kernel)) (
  zcons (zk_reti (pc := 62) rfl (by decide +kernel)) (
  zcons (zk_aload_n (pc := 63) (j := 0) rfl (by decide +kernel)) (
  zcons (zk_getr (pc := 64) (ci := 7) (j := 2) rfl zinX7 (by decide) zw_256 (by decide +kernel)) (
  zcons (zk_getrN (pc := 67) (ci := 5) (j := 8) rfl zinX5 (by decide) zw_88 (by decide +kernel)) (
  zcons (zk_iload_n (pc := 70) (j := 1) rfl (by decide +kernel)) (
  zcons (zk_iaload (pc := 71) (by decide +kernel)) (
  zcons (zk_aload_n (pc := 72) (j := 0) rfl (by decide +kernel)) (
  zcons (zk_getr (pc := 73) (ci := 7) (j := 2) rfl zinX7 (by decide) zw_256 (by decide +kernel)) (
  zcons (zk_getN (pc := 76) (ci := 5) (j := 5) rfl zinX5 (by decide) zw_80 (by decide +kernel)) (
  zcons (zk_iand (pc := 79) (by decide +kernel)) (
  zcons (zk_reti (pc := 80) rfl (by decide +kernel)) (
  zcons (zk_aload_n (pc := 81) (j := 0) rfl (by decide +kernel)) (
  zcons (zk_getr (pc := 82) (ci := 7) (j := 2) rfl zinX7 (by decide) zw_256 (by decide +kernel)) (
  zcons (zk_iload_n (pc := 85) (j := 1) rfl (by decide +kernel)) (
  zcons (zk_cviN (pc := 86) 67 rfl (ci := 5) rfl zw_542 zw_544 zsel_X5_ownerOf zds_X5_ownerOf (by decide) zw_545 zw_3 (by decide +kernel)) (
  zcons (zk_reti (pc := 89) rfl (by decide +kernel)) (
  zcons (zk_ldc (pc := 90) zw_292 (by decide +kernel)) (
  zcons (zk_reti (pc := 92) rfl (by decide +kernel)) (znil))))))))))))))))))))))))))))))))))))
def tb_X7_customer : List (Nat × ZP) := [(0, zo_al 0 1), (1, zo_il 1 2), (2, zo_cvi 7 125 1 5), (5, zo_ifne 11 8), (8, zo_i (-1000001) 10), (10, zo_reti), (11, zo_il 2 12), (12, zo_sw [(0, 40), (1, 50), (2, 60)] 70), (40, zo_al 0 41), (41, zo_getr 7 2 44), (44, zo_getr 5 11 47), (47, zo_il 1 48), (48, zo_iald 49), (49, zo_reti), (50, zo_al 0 51), (51, zo_getr 7 2 54), (54, zo_getr 5 12 57), (57, zo_il 1 58), (58, zo_iald 59), (59, zo_reti), (60, zo_al 0 61), (61, zo_getr 7 2 64), (64, zo_getr 5 13 67), (67, zo_il 1 68), (68, zo_iald 69), (69, zo_reti), (70, zo_i (-1000001) 72), (72, zo_reti)]
def cu_X7_customer : List (Nat × List Bool) := []
set_option maxRecDepth 100000 in
set_option maxHeartbeats 4000000 in
theorem ok_X7_customer : ∀ e ∈ tb_X7_customer, ZOK zmt cX7_customer RX7 1 e.1 e.2 :=
  zcons (zk_aload_n (pc := 0) (j := 0) rfl (by decide +kernel)) (
  zcons (zk_iload_n (pc := 1) (j := 1) rfl (by decide +kernel)) (
  zcons (zk_cvi (pc := 2) 125 rfl (ci := 7) rfl zw_457 zw_459 zsel_X7_isCustomer zds_X7_isCustomer (by decide) zw_460 zw_1 (by decide +kernel)) (
  zcons (zk_ifne (pc := 5) (off := 6) (by decide) (by decide +kernel)) (
  zcons (zk_ldc (pc := 8) zw_292 (by decide +kernel)) (
  zcons (zk_reti (pc := 10) rfl (by decide +kernel)) (
  zcons (zk_iload_n (pc := 11) (j := 2) rfl (by decide +kernel)) (
  zcons (zk_table (pc := 12) (dflt := 58) (lw := 0) (hi := 2) (offs := #[28, 38, 48]) (len := 28) (by decide +kernel) (by decide +kernel)) (
  zcons (zk_aload_n (pc := 40) (j := 0) rfl (by decide +kernel)) (
  zcons (zk_getr (pc := 41) (ci := 7) (j := 2) rfl zinX7 (by decide) zw_256 (by decide +kernel)) (
  zcons (zk_getrN (pc := 44) (ci := 5) (j := 11) rfl zinX5 (by decide) zw_97 (by decide +kernel)) (
  zcons (zk_iload_n (pc := 47) (j := 1) rfl (by decide +kernel)) (
  zcons (zk_iaload (pc := 48) (by decide +kernel)) (
  zcons (zk_reti (pc := 49) rfl (by decide +kernel)) (
  zcons (zk_aload_n (pc := 50) (j := 0) rfl (by decide +kernel)) (
  zcons (zk_getr (pc := 51) (ci := 7) (j := 2) rfl zinX7 (by decide) zw_256 (by decide +kernel)) (
  zcons (zk_getrN (pc := 54) (ci := 5) (j := 12) rfl zinX5 (by decide) zw_99 (by decide +kernel)) (
  zcons (zk_iload_n (pc := 57) (j := 1) rfl (by decide +kernel)) (
  zcons (zk_iaload (pc := 58) (by decide +kernel)) (
  zcons (zk_reti (pc := 59) rfl (by decide +kernel)) (
  zcons (zk_aload_n (pc := 60) (j := 0) rfl (by decide +kernel)) (
  zcons (zk_getr (pc := 61) (ci := 7) (j := 2) rfl zinX7 (by decide) zw_256 (by decide +kernel)) (
  zcons (zk_getrN (pc := 64) (ci := 5) (j := 13) rfl zinX5 (by decide) zw_101 (by decide +kernel)) (
  zcons (zk_iload_n (pc := 67) (j := 1) rfl (by decide +kernel)) (
  zcons (zk_iaload (pc := 68) (by decide +kernel)) (
  zcons (zk_reti (pc := 69) rfl (by decide +kernel)) (
  zcons (zk_ldc (pc := 70) zw_292 (by decide +kernel)) (
  zcons (zk_reti (pc := 72) rfl (by decide +kernel)) (znil))))))))))))))))))))))))))))
def tb_X7_stand : List (Nat × ZP) := [(0, zo_al 0 1), (1, zo_cvi 7 122 0 4), (4, zo_ifne 10 7), (7, zo_i (-1000002) 9), (9, zo_reti), (10, zo_il 1 11), (11, zo_sw [(0, 44), (1, 52), (2, 60), (3, 68), (4, 76)] 84), (44, zo_al 0 45), (45, zo_getr 7 2 48), (48, zo_get 5 5 51), (51, zo_reti), (52, zo_al 0 53), (53, zo_getr 7 2 56), (56, zo_cvi 5 65 0 59), (59, zo_reti), (60, zo_al 0 61), (61, zo_getr 7 2 64), (64, zo_get 5 4 67), (67, zo_reti), (68, zo_al 0 69), (69, zo_getr 7 2 72), (72, zo_get 5 3 75), (75, zo_reti), (76, zo_al 0 77), (77, zo_getr 7 2 80), (80, zo_get 5 6 83), (83, zo_reti), (84, zo_i (-1000001) 86), (86, zo_reti)]
def cu_X7_stand : List (Nat × List Bool) := []
set_option maxRecDepth 100000 in
set_option maxHeartbeats 4000000 in
theorem ok_X7_stand : ∀ e ∈ tb_X7_stand, ZOK zmt cX7_stand RX7 1 e.1 e.2 :=
  zcons (zk_aload_n (pc := 0) (j := 0) rfl (by decide +kernel)) (
  zcons (zk_cvi (pc := 1) 122 rfl (ci := 7) rfl zw_529 zw_531 zsel_X7_isThere zds_X7_isThere (by decide) zw_532 zw_1 (by decide +kernel)) (
  zcons (zk_ifne (pc := 4) (off := 6) (by decide) (by decide +kernel)) (
  zcons (zk_ldc (pc := 7) zw_440 (by decide +kernel)) (
  zcons (zk_reti (pc := 9) rfl (by decide +kernel)) (
  zcons (zk_iload_n (pc := 10) (j := 1) rfl (by decide +kernel)) (
  zcons (zk_table (pc := 11) (dflt := 73) (lw := 0) (hi := 4) (offs := #[33, 41, 49, 57, 65]) (len := 33) (by decide +kernel) (by decide +kernel)) (
  zcons (zk_aload_n (pc := 44) (j := 0) rfl (by decide +kernel)) (
  zcons (zk_getr (pc := 45) (ci := 7) (j := 2) rfl zinX7 (by decide) zw_256 (by decide +kernel)) (
  zcons (zk_getN (pc := 48) (ci := 5) (j := 5) rfl zinX5 (by decide) zw_80 (by decide +kernel)) (
  zcons (zk_reti (pc := 51) rfl (by decide +kernel)) (
  zcons (zk_aload_n (pc := 52) (j := 0) rfl (by decide +kernel)) (
  zcons (zk_getr (pc := 53) (ci := 7) (j := 2) rfl zinX7 (by decide) zw_256 (by decide +kernel)) (
  zcons (zk_cviN (pc := 56) 65 rfl (ci := 5) rfl zw_555 zw_557 zsel_X5_served zds_X5_served (by decide) zw_558 zw_3 (by decide +kernel)) (
  zcons (zk_reti (pc := 59) rfl (by decide +kernel)) (
  zcons (zk_aload_n (pc := 60) (j := 0) rfl (by decide +kernel)) (
  zcons (zk_getr (pc := 61) (ci := 7) (j := 2) rfl zinX7 (by decide) zw_256 (by decide +kernel)) (
  zcons (zk_getN (pc := 64) (ci := 5) (j := 4) rfl zinX5 (by decide) zw_77 (by decide +kernel)) (
  zcons (zk_reti (pc := 67) rfl (by decide +kernel)) (
  zcons (zk_aload_n (pc := 68) (j := 0) rfl (by decide +kernel)) (
  zcons (zk_getr (pc := 69) (ci := 7) (j := 2) rfl zinX7 (by decide) zw_256 (by decide +kernel)) (
  zcons (zk_getN (pc := 72) (ci := 5) (j := 3) rfl zinX5 (by decide) zw_74 (by decide +kernel)) (
  zcons (zk_reti (pc := 75) rfl (by decide +kernel)) (
  zcons (zk_aload_n (pc := 76) (j := 0) rfl (by decide +kernel)) (
  zcons (zk_getr (pc := 77) (ci := 7) (j := 2) rfl zinX7 (by decide) zw_256 (by decide +kernel)) (
  zcons (zk_getN (pc := 80) (ci := 5) (j := 6) rfl zinX5 (by decide) zw_84 (by decide +kernel)) (
  zcons (zk_reti (pc := 83) rfl (by decide +kernel)) (
  zcons (zk_ldc (pc := 84) zw_292 (by decide +kernel)) (
  zcons (zk_reti (pc := 86) rfl (by decide +kernel)) (znil)))))))))))))))))))))))))))))
def tb_X7_piece : List (Nat × ZP) := [(0, zo_al 0 1), (1, zo_getr 7 6 4), (4, zo_al 0 5), (5, zo_getr 7 2 8), (8, zo_il 1 9), (9, zo_cvi 2 12 2 12), (12, zo_ifne 18 15), (15, zo_i (-1000001) 17), (17, zo_reti), (18, zo_il 2 19), (19, zo_sw [(0, 48), (1, 57), (2, 66), (3, 71)] 88), (48, zo_al 0 49), (49, zo_getr 7 2 52), (52, zo_il 1 53), (53, zo_cvi 5 68 1 56), (56, zo_reti), (57, zo_al 0 58), (58, zo_getr 7 2 61), (61, zo_il 1 62), (62, zo_cvi 5 70 1 65), (65, zo_reti), (66, zo_il 1 67), (67, zo_csi 233 1 70), (70, zo_reti), (71, zo_al 0 72), (72, zo_getr 7 2 75), (75, zo_al 0 76), (76, zo_getr 7 2 79), (79, zo_get 5 5 82), (82, zo_il 1 83), (83, zo_bin (· ^^^ ·) 84), (84, zo_cvi 5 73 1 87), (87, zo_reti), (88, zo_i (-1000001) 90), (90, zo_reti)]
def cu_X7_piece : List (Nat × List Bool) := []
set_option maxRecDepth 100000 in
set_option maxHeartbeats 4000000 in
theorem ok_X7_piece : ∀ e ∈ tb_X7_piece, ZOK zmt cX7_piece RX7 1 e.1 e.2 :=
  zcons (zk_aload_n (pc := 0) (j := 0) rfl (by decide +kernel)) (
  zcons (zk_getr (pc := 1) (ci := 7) (j := 6) rfl zinX7 (by decide) zw_260 (by decide +kernel)) (
  zcons (zk_aload_n (pc := 4) (j := 0) rfl (by decide +kernel)) (
  zcons (zk_getr (pc := 5) (ci := 7) (j := 2) rfl zinX7 (by decide) zw_256 (by decide +kernel)) (
  zcons (zk_iload_n (pc := 8) (j := 1) rfl (by decide +kernel)) (
  zcons (zk_cviN (pc := 9) 12 rfl (ci := 2) rfl zw_461 zw_463 zsel_X2_isPiece zds_X2_isPiece (by decide) zw_464 zw_5 (by decide +kernel)) (
  zcons (zk_ifne (pc := 12) (off := 6) (by decide) (by decide +kernel)) (
  zcons (zk_ldc (pc := 15) zw_292 (by decide +kernel)) (
  zcons (zk_reti (pc := 17) rfl (by decide +kernel)) (
  zcons (zk_iload_n (pc := 18) (j := 2) rfl (by decide +kernel)) (
  zcons (zk_table (pc := 19) (dflt := 69) (lw := 0) (hi := 3) (offs := #[29, 38, 47, 52]) (len := 29) (by decide +kernel) (by decide +kernel)) (
  zcons (zk_aload_n (pc := 48) (j := 0) rfl (by decide +kernel)) (
  zcons (zk_getr (pc := 49) (ci := 7) (j := 2) rfl zinX7 (by decide) zw_256 (by decide +kernel)) (
  zcons (zk_iload_n (pc := 52) (j := 1) rfl (by decide +kernel)) (
  zcons (zk_cviN (pc := 53) 68 rfl (ci := 5) rfl zw_473 zw_475 zsel_X5_paysOf zds_X5_paysOf (by decide) zw_476 zw_3 (by decide +kernel)) (
  zcons (zk_reti (pc := 56) rfl (by decide +kernel)) (
  zcons (zk_aload_n (pc := 57) (j := 0) rfl (by decide +kernel)) (
  zcons (zk_getr (pc := 58) (ci := 7) (j := 2) rfl zinX7 (by decide) zw_256 (by decide +kernel)) (
  zcons (zk_iload_n (pc := 61) (j := 1) rfl (by decide +kernel)) (
  zcons (zk_cviN (pc := 62) 70 rfl (ci := 5) rfl zw_486 zw_488 zsel_X5_tearsOf zds_X5_tearsOf (by decide) zw_489 zw_3 (by decide +kernel)) (
  zcons (zk_reti (pc := 65) rfl (by decide +kernel)) (
  zcons (zk_iload_n (pc := 66) (j := 1) rfl (by decide +kernel)) (
  zcons (zk_csi (pc := 67) 233 rfl zw_517 zw_423 zds_J6_bitCount_0f7a4 (by decide) zw_424 zw_13 (by decide +kernel)) (
  zcons (zk_reti (pc := 70) rfl (by decide +kernel)) (
  zcons (zk_aload_n (pc := 71) (j := 0) rfl (by decide +kernel)) (
  zcons (zk_getr (pc := 72) (ci := 7) (j := 2) rfl zinX7 (by decide) zw_256 (by decide +kernel)) (
  zcons (zk_aload_n (pc := 75) (j := 0) rfl (by decide +kernel)) (
  zcons (zk_getr (pc := 76) (ci := 7) (j := 2) rfl zinX7 (by decide) zw_256 (by decide +kernel)) (
  zcons (zk_getN (pc := 79) (ci := 5) (j := 5) rfl zinX5 (by decide) zw_80 (by decide +kernel)) (
  zcons (zk_iload_n (pc := 82) (j := 1) rfl (by decide +kernel)) (
  zcons (zk_ixor (pc := 83) (by decide +kernel)) (
  zcons (zk_cviN (pc := 84) 73 rfl (ci := 5) rfl zw_564 zw_566 zsel_X5_countParts zds_X5_countParts (by decide) zw_567 zw_3 (by decide +kernel)) (
  zcons (zk_reti (pc := 87) rfl (by decide +kernel)) (
  zcons (zk_ldc (pc := 88) zw_292 (by decide +kernel)) (
  zcons (zk_reti (pc := 90) rfl (by decide +kernel)) (znil)))))))))))))))))))))))))))))))))))
def tb_X7_parts : List (Nat × ZP) := [(0, zo_al 0 1), (1, zo_cvi 7 122 0 4), (4, zo_ifne 10 7), (7, zo_i (-1000002) 9), (9, zo_reti), (10, zo_il 1 11), (11, zo_i (-1) 12), (12, zo_icge 18 15), (15, zo_i (-1000001) 17), (17, zo_reti), (18, zo_il 1 19), (19, zo_i (-1) 20), (20, zo_icne 40 23), (23, zo_al 0 24), (24, zo_getr 7 2 27), (27, zo_al 0 28), (28, zo_getr 7 2 31), (31, zo_get 5 5 34), (34, zo_cvi 5 73 1 37), (37, zo_goto 48), (40, zo_al 0 41), (41, zo_getr 7 2 44), (44, zo_il 1 45), (45, zo_cvi 5 74 1 48), (48, zo_reti)]
def cu_X7_parts : List (Nat × List Bool) := []
set_option maxRecDepth 100000 in
set_option maxHeartbeats 4000000 in
theorem ok_X7_parts : ∀ e ∈ tb_X7_parts, ZOK zmt cX7_parts RX7 1 e.1 e.2 :=
  zcons (zk_aload_n (pc := 0) (j := 0) rfl (by decide +kernel)) (
  zcons (zk_cvi (pc := 1) 122 rfl (ci := 7) rfl zw_529 zw_531 zsel_X7_isThere zds_X7_isThere (by decide) zw_532 zw_1 (by decide +kernel)) (
  zcons (zk_ifne (pc := 4) (off := 6) (by decide) (by decide +kernel)) (
  zcons (zk_ldc (pc := 7) zw_440 (by decide +kernel)) (
  zcons (zk_reti (pc := 9) rfl (by decide +kernel)) (
  zcons (zk_iload_n (pc := 10) (j := 1) rfl (by decide +kernel)) (
  zcons (zk_iconst (pc := 11) (z := (-1)) (by decide) (by decide +kernel)) (
  zcons (zk_icge (pc := 12) (off := 6) (by decide) (by decide +kernel)) (
  zcons (zk_ldc (pc := 15) zw_292 (by decide +kernel)) (
  zcons (zk_reti (pc := 17) rfl (by decide +kernel)) (
  zcons (zk_iload_n (pc := 18) (j := 1) rfl (by decide +kernel)) (
  zcons (zk_iconst (pc := 19) (z := (-1)) (by decide) (by decide +kernel)) (
  zcons (zk_icne (pc := 20) (off := 20) (by decide) (by decide +kernel)) (
  zcons (zk_aload_n (pc := 23) (j := 0) rfl (by decide +kernel)) (
  zcons (zk_getr (pc := 24) (ci := 7) (j := 2) rfl zinX7 (by decide) zw_256 (by decide +kernel)) (
  zcons (zk_aload_n (pc := 27) (j := 0) rfl (by decide +kernel)) (
  zcons (zk_getr (pc := 28) (ci := 7) (j := 2) rfl zinX7 (by decide) zw_256 (by decide +kernel)) (
  zcons (zk_getN (pc := 31) (ci := 5) (j := 5) rfl zinX5 (by decide) zw_80 (by decide +kernel)) (
  zcons (zk_cviN (pc := 34) 73 rfl (ci := 5) rfl zw_564 zw_566 zsel_X5_countParts zds_X5_countParts (by decide) zw_567 zw_3 (by decide +kernel)) (
  zcons (zk_goto (pc := 37) (off := 11) (by decide) (by decide +kernel)) (
  zcons (zk_aload_n (pc := 40) (j := 0) rfl (by decide +kernel)) (
  zcons (zk_getr (pc := 41) (ci := 7) (j := 2) rfl zinX7 (by decide) zw_256 (by decide +kernel)) (
  zcons (zk_iload_n (pc := 44) (j := 1) rfl (by decide +kernel)) (
  zcons (zk_cviN (pc := 45) 74 rfl (ci := 5) rfl zw_583 zw_585 zsel_X5_partNumber zds_X5_partNumber (by decide) zw_586 zw_3 (by decide +kernel)) (
  zcons (zk_reti (pc := 48) rfl (by decide +kernel)) (znil)))))))))))))))))))))))))
def tb_X7_pieces : List (Nat × ZP) := [(0, zo_al 0 1), (1, zo_cvi 7 122 0 4), (4, zo_ifne 10 7), (7, zo_i (-1000002) 9), (9, zo_reti), (10, zo_il 1 11), (11, zo_i 1 12), (12, zo_iclt 21 15), (15, zo_il 1 16), (16, zo_i 10 18), (18, zo_icle 24 21), (21, zo_i (-1000001) 23), (23, zo_reti), (24, zo_il 2 25), (25, zo_sw [(0, 52), (1, 64), (2, 78)] 92), (52, zo_al 0 53), (53, zo_getr 7 6 56), (56, zo_al 0 57), (57, zo_getr 7 2 60), (60, zo_cvi 2 14 1 63), (63, zo_reti), (64, zo_al 0 65), (65, zo_getr 7 6 68), (68, zo_al 0 69), (69, zo_getr 7 2 72), (72, zo_il 1 73), (73, zo_i 0 74), (74, zo_cvi 2 15 3 77), (77, zo_reti), (78, zo_al 0 79), (79, zo_getr 7 6 82), (82, zo_al 0 83), (83, zo_getr 7 2 86), (86, zo_il 1 87), (87, zo_i 1 88), (88, zo_cvi 2 15 3 91), (91, zo_reti), (92, zo_i (-1000001) 94), (94, zo_reti)]
def cu_X7_pieces : List (Nat × List Bool) := []
set_option maxRecDepth 100000 in
set_option maxHeartbeats 4000000 in
theorem ok_X7_pieces : ∀ e ∈ tb_X7_pieces, ZOK zmt cX7_pieces RX7 1 e.1 e.2 :=
  zcons (zk_aload_n (pc := 0) (j := 0) rfl (by decide +kernel)) (
  zcons (zk_cvi (pc := 1) 122 rfl (ci := 7) rfl zw_529 zw_531 zsel_X7_isThere zds_X7_isThere (by decide) zw_532 zw_1 (by decide +kernel)) (
  zcons (zk_ifne (pc := 4) (off := 6) (by decide) (by decide +kernel)) (
  zcons (zk_ldc (pc := 7) zw_440 (by decide +kernel)) (
  zcons (zk_reti (pc := 9) rfl (by decide +kernel)) (
  zcons (zk_iload_n (pc := 10) (j := 1) rfl (by decide +kernel)) (
  zcons (zk_iconst (pc := 11) (z := 1) (by decide) (by decide +kernel)) (
  zcons (zk_iclt (pc := 12) (off := 9) (by decide) (by decide +kernel)) (
  zcons (zk_iload_n (pc := 15) (j := 1) rfl (by decide +kernel)) (
  zcons (zk_bipush (pc := 16) (z := 10) (by decide) (by decide +kernel)) (
  zcons (zk_icle (pc := 18) (off := 6) (by decide) (by decide +kernel)) (
  zcons (zk_ldc (pc := 21) zw_292 (by decide +kernel)) (
  zcons (zk_reti (pc := 23) rfl (by decide +kernel)) (
  zcons (zk_iload_n (pc := 24) (j := 2) rfl (by decide +kernel)) (
  zcons (zk_table (pc := 25) (dflt := 67) (lw := 0) (hi := 2) (offs := #[27, 39, 53]) (len := 27) (by decide +kernel) (by decide +kernel)) (
  zcons (zk_aload_n (pc := 52) (j := 0) rfl (by decide +kernel)) (
  zcons (zk_getr (pc := 53) (ci := 7) (j := 6) rfl zinX7 (by decide) zw_260 (by decide +kernel)) (
  zcons (zk_aload_n (pc := 56) (j := 0) rfl (by decide +kernel)) (
  zcons (zk_getr (pc := 57) (ci := 7) (j := 2) rfl zinX7 (by decide) zw_256 (by decide +kernel)) (
  zcons (zk_cviN (pc := 60) 14 rfl (ci := 2) rfl zw_591 zw_593 zsel_X2_countAll zds_X2_countAll (by decide) zw_594 zw_5 (by decide +kernel)) (
  zcons (zk_reti (pc := 63) rfl (by decide +kernel)) (
  zcons (zk_aload_n (pc := 64) (j := 0) rfl (by decide +kernel)) (
  zcons (zk_getr (pc := 65) (ci := 7) (j := 6) rfl zinX7 (by decide) zw_260 (by decide +kernel)) (
  zcons (zk_aload_n (pc := 68) (j := 0) rfl (by decide +kernel)) (
  zcons (zk_getr (pc := 69) (ci := 7) (j := 2) rfl zinX7 (by decide) zw_256 (by decide +kernel)) (
  zcons (zk_iload_n (pc := 72) (j := 1) rfl (by decide +kernel)) (
  zcons (zk_iconst (pc := 73) (z := 0) (by decide) (by decide +kernel)) (
  zcons (zk_cviN (pc := 74) 15 rfl (ci := 2) rfl zw_595 zw_597 zsel_X2_countOf zds_X2_countOf (by decide) zw_598 zw_5 (by decide +kernel)) (
  zcons (zk_reti (pc := 77) rfl (by decide +kernel)) (
  zcons (zk_aload_n (pc := 78) (j := 0) rfl (by decide +kernel)) (
  zcons (zk_getr (pc := 79) (ci := 7) (j := 6) rfl zinX7 (by decide) zw_260 (by decide +kernel)) (
  zcons (zk_aload_n (pc := 82) (j := 0) rfl (by decide +kernel)) (
  zcons (zk_getr (pc := 83) (ci := 7) (j := 2) rfl zinX7 (by decide) zw_256 (by decide +kernel)) (
  zcons (zk_iload_n (pc := 86) (j := 1) rfl (by decide +kernel)) (
  zcons (zk_iconst (pc := 87) (z := 1) (by decide) (by decide +kernel)) (
  zcons (zk_cviN (pc := 88) 15 rfl (ci := 2) rfl zw_595 zw_597 zsel_X2_countOf zds_X2_countOf (by decide) zw_598 zw_5 (by decide +kernel)) (
  zcons (zk_reti (pc := 91) rfl (by decide +kernel)) (
  zcons (zk_ldc (pc := 92) zw_292 (by decide +kernel)) (
  zcons (zk_reti (pc := 94) rfl (by decide +kernel)) (znil)))))))))))))))))))))))))))))))))))))))
def tb_X7_sums : List (Nat × ZP) := [(0, zo_al 0 1), (1, zo_cvi 7 122 0 4), (4, zo_ifne 10 7), (7, zo_i (-1000002) 9), (9, zo_reti), (10, zo_il 1 11), (11, zo_iflt 19 14), (14, zo_il 1 15), (15, zo_i 2 16), (16, zo_icle 22 19), (19, zo_i (-1000001) 21), (21, zo_reti), (22, zo_al 0 23), (23, zo_getr 7 6 26), (26, zo_al 0 27), (27, zo_getr 7 2 30), (30, zo_cvv 2 11 1 33), (33, zo_il 1 34), (34, zo_i 2 35), (35, zo_icne 50 38), (38, zo_al 0 39), (39, zo_getr 7 6 42), (42, zo_al 0 43), (43, zo_getr 7 2 46), (46, zo_cvi 2 20 1 49), (49, zo_reti), (50, zo_al 0 51), (51, zo_getr 7 6 54), (54, zo_al 0 55), (55, zo_getr 7 2 58), (58, zo_cvv 2 17 1 61), (61, zo_il 1 62), (62, zo_ifne 75 65), (65, zo_al 0 66), (66, zo_getr 7 6 69), (69, zo_cvi 2 18 0 72), (72, zo_goto 82), (75, zo_al 0 76), (76, zo_getr 7 6 79), (79, zo_cvi 2 19 0 82), (82, zo_reti)]
def cu_X7_sums : List (Nat × List Bool) := []
set_option maxRecDepth 100000 in
set_option maxHeartbeats 4000000 in
theorem ok_X7_sums : ∀ e ∈ tb_X7_sums, ZOK zmt cX7_sums RX7 1 e.1 e.2 :=
  zcons (zk_aload_n (pc := 0) (j := 0) rfl (by decide +kernel)) (
  zcons (zk_cvi (pc := 1) 122 rfl (ci := 7) rfl zw_529 zw_531 zsel_X7_isThere zds_X7_isThere (by decide) zw_532 zw_1 (by decide +kernel)) (
  zcons (zk_ifne (pc := 4) (off := 6) (by decide) (by decide +kernel)) (
  zcons (zk_ldc (pc := 7) zw_440 (by decide +kernel)) (
  zcons (zk_reti (pc := 9) rfl (by decide +kernel)) (
  zcons (zk_iload_n (pc := 10) (j := 1) rfl (by decide +kernel)) (
  zcons (zk_iflt (pc := 11) (off := 8) (by decide) (by decide +kernel)) (
  zcons (zk_iload_n (pc := 14) (j := 1) rfl (by decide +kernel)) (
  zcons (zk_iconst (pc := 15) (z := 2) (by decide) (by decide +kernel)) (
  zcons (zk_icle (pc := 16) (off := 6) (by decide) (by decide +kernel)) (
  zcons (zk_ldc (pc := 19) zw_292 (by decide +kernel)) (
  zcons (zk_reti (pc := 21) rfl (by decide +kernel)) (
  zcons (zk_aload_n (pc := 22) (j := 0) rfl (by decide +kernel)) (
  zcons (zk_getr (pc := 23) (ci := 7) (j := 6) rfl zinX7 (by decide) zw_260 (by decide +kernel)) (
  zcons (zk_aload_n (pc := 26) (j := 0) rfl (by decide +kernel)) (
  zcons (zk_getr (pc := 27) (ci := 7) (j := 2) rfl zinX7 (by decide) zw_256 (by decide +kernel)) (
  zcons (zk_cvvN (pc := 30) 11 rfl (ci := 2) rfl zw_611 zw_613 zsel_X2_weigh zds_X2_weigh (by decide) zw_614 zw_5 (by decide +kernel)) (
  zcons (zk_iload_n (pc := 33) (j := 1) rfl (by decide +kernel)) (
  zcons (zk_iconst (pc := 34) (z := 2) (by decide) (by decide +kernel)) (
  zcons (zk_icne (pc := 35) (off := 15) (by decide) (by decide +kernel)) (
  zcons (zk_aload_n (pc := 38) (j := 0) rfl (by decide +kernel)) (
  zcons (zk_getr (pc := 39) (ci := 7) (j := 6) rfl zinX7 (by decide) zw_260 (by decide +kernel)) (
  zcons (zk_aload_n (pc := 42) (j := 0) rfl (by decide +kernel)) (
  zcons (zk_getr (pc := 43) (ci := 7) (j := 2) rfl zinX7 (by decide) zw_256 (by decide +kernel)) (
  zcons (zk_cviN (pc := 46) 20 rfl (ci := 2) rfl zw_616 zw_618 zsel_X2_greatestSum zds_X2_greatestSum (by decide) zw_619 zw_5 (by decide +kernel)) (
  zcons (zk_reti (pc := 49) rfl (by decide +kernel)) (
  zcons (zk_aload_n (pc := 50) (j := 0) rfl (by decide +kernel)) (
  zcons (zk_getr (pc := 51) (ci := 7) (j := 6) rfl zinX7 (by decide) zw_260 (by decide +kernel)) (
  zcons (zk_aload_n (pc := 54) (j := 0) rfl (by decide +kernel)) (
  zcons (zk_getr (pc := 55) (ci := 7) (j := 2) rfl zinX7 (by decide) zw_256 (by decide +kernel)) (
  zcons (zk_cvvN (pc := 58) 17 rfl (ci := 2) rfl zw_623 zw_625 zsel_X2_markSums zds_X2_markSums (by decide) zw_626 zw_5 (by decide +kernel)) (
  zcons (zk_iload_n (pc := 61) (j := 1) rfl (by decide +kernel)) (
  zcons (zk_ifne (pc := 62) (off := 13) (by decide) (by decide +kernel)) (
  zcons (zk_aload_n (pc := 65) (j := 0) rfl (by decide +kernel)) (
  zcons (zk_getr (pc := 66) (ci := 7) (j := 6) rfl zinX7 (by decide) zw_260 (by decide +kernel)) (
  zcons (zk_cviN (pc := 69) 18 rfl (ci := 2) rfl zw_628 zw_630 zsel_X2_countSums zds_X2_countSums (by decide) zw_631 zw_5 (by decide +kernel)) (
  zcons (zk_goto (pc := 72) (off := 10) (by decide) (by decide +kernel)) (
  zcons (zk_aload_n (pc := 75) (j := 0) rfl (by decide +kernel)) (
  zcons (zk_getr (pc := 76) (ci := 7) (j := 6) rfl zinX7 (by decide) zw_260 (by decide +kernel)) (
  zcons (zk_cviN (pc := 79) 19 rfl (ci := 2) rfl zw_632 zw_634 zsel_X2_leastSumUnpaid zds_X2_leastSumUnpaid (by decide) zw_635 zw_5 (by decide +kernel)) (
  zcons (zk_reti (pc := 82) rfl (by decide +kernel)) (znil)))))))))))))))))))))))))))))))))))))))))
def tb_X7_best : List (Nat × ZP) := [(0, zo_al 0 1), (1, zo_il 1 2), (2, zo_cvi 7 125 1 5), (5, zo_ifeq 15 8), (8, zo_il 2 9), (9, zo_csi 128 1 12), (12, zo_ifne 18 15), (15, zo_i (-1000001) 17), (17, zo_reti), (18, zo_al 0 19), (19, zo_getr 7 2 22), (22, zo_il 1 23), (23, zo_cvi 5 63 1 26), (26, zo_ifeq 32 29), (29, zo_i (-1000002) 31), (31, zo_reti), (32, zo_al 0 33), (33, zo_getr 7 6 36), (36, zo_al 0 37), (37, zo_getr 7 2 40), (40, zo_cvv 2 11 1 43), (43, zo_al 0 44), (44, zo_getr 7 6 47), (47, zo_al 0 48), (48, zo_getr 7 2 51), (51, zo_il 1 52), (52, zo_cvi 2 21 2 55), (55, zo_is 3 56), (56, zo_il 3 57), (57, zo_ifne 64 60), (60, zo_i (-1000000) 63), (63, zo_reti), (64, zo_il 2 65), (65, zo_ifne 72 68), (68, zo_il 3 69), (69, zo_goto 80), (72, zo_al 0 73), (73, zo_getr 7 2 76), (76, zo_il 3 77), (77, zo_cvi 5 70 1 80), (80, zo_reti)]
def cu_X7_best : List (Nat × List Bool) := []
set_option maxRecDepth 100000 in
set_option maxHeartbeats 4000000 in
theorem ok_X7_best : ∀ e ∈ tb_X7_best, ZOK zmt cX7_best RX7 1 e.1 e.2 :=
  zcons (zk_aload_n (pc := 0) (j := 0) rfl (by decide +kernel)) (
  zcons (zk_iload_n (pc := 1) (j := 1) rfl (by decide +kernel)) (
  zcons (zk_cvi (pc := 2) 125 rfl (ci := 7) rfl zw_457 zw_459 zsel_X7_isCustomer zds_X7_isCustomer (by decide) zw_460 zw_1 (by decide +kernel)) (
  zcons (zk_ifeq (pc := 5) (off := 10) (by decide) (by decide +kernel)) (
  zcons (zk_iload_n (pc := 8) (j := 2) rfl (by decide +kernel)) (
  zcons (zk_csi (pc := 9) 128 rfl zw_641 zw_642 zds_X7_isEither (by decide) zw_643 zw_1 (by decide +kernel)) (
  zcons (zk_ifne (pc := 12) (off := 6) (by decide) (by decide +kernel)) (
  zcons (zk_ldc (pc := 15) zw_292 (by decide +kernel)) (
  zcons (zk_reti (pc := 17) rfl (by decide +kernel)) (
  zcons (zk_aload_n (pc := 18) (j := 0) rfl (by decide +kernel)) (
  zcons (zk_getr (pc := 19) (ci := 7) (j := 2) rfl zinX7 (by decide) zw_256 (by decide +kernel)) (
  zcons (zk_iload_n (pc := 22) (j := 1) rfl (by decide +kernel)) (
  zcons (zk_cviN (pc := 23) 63 rfl (ci := 5) rfl zw_469 zw_471 zsel_X5_isServed zds_X5_isServed (by decide) zw_472 zw_3 (by decide +kernel)) (
  zcons (zk_ifeq (pc := 26) (off := 6) (by decide) (by decide +kernel)) (
  zcons (zk_ldc (pc := 29) zw_440 (by decide +kernel)) (
  zcons (zk_reti (pc := 31) rfl (by decide +kernel)) (
  zcons (zk_aload_n (pc := 32) (j := 0) rfl (by decide +kernel)) (
  zcons (zk_getr (pc := 33) (ci := 7) (j := 6) rfl zinX7 (by decide) zw_260 (by decide +kernel)) (
  zcons (zk_aload_n (pc := 36) (j := 0) rfl (by decide +kernel)) (
  zcons (zk_getr (pc := 37) (ci := 7) (j := 2) rfl zinX7 (by decide) zw_256 (by decide +kernel)) (
  zcons (zk_cvvN (pc := 40) 11 rfl (ci := 2) rfl zw_611 zw_613 zsel_X2_weigh zds_X2_weigh (by decide) zw_614 zw_5 (by decide +kernel)) (
  zcons (zk_aload_n (pc := 43) (j := 0) rfl (by decide +kernel)) (
  zcons (zk_getr (pc := 44) (ci := 7) (j := 6) rfl zinX7 (by decide) zw_260 (by decide +kernel)) (
  zcons (zk_aload_n (pc := 47) (j := 0) rfl (by decide +kernel)) (
  zcons (zk_getr (pc := 48) (ci := 7) (j := 2) rfl zinX7 (by decide) zw_256 (by decide +kernel)) (
  zcons (zk_iload_n (pc := 51) (j := 1) rfl (by decide +kernel)) (
  zcons (zk_cviN (pc := 52) 21 rfl (ci := 2) rfl zw_644 zw_646 zsel_X2_bestFor zds_X2_bestFor (by decide) zw_647 zw_5 (by decide +kernel)) (
  zcons (zk_istore_n (pc := 55) (j := 3) rfl (by decide +kernel)) (
  zcons (zk_iload_n (pc := 56) (j := 3) rfl (by decide +kernel)) (
  zcons (zk_ifne (pc := 57) (off := 7) (by decide) (by decide +kernel)) (
  zcons (zk_ldcw (pc := 60) zw_657 (by decide +kernel)) (
  zcons (zk_reti (pc := 63) rfl (by decide +kernel)) (
  zcons (zk_iload_n (pc := 64) (j := 2) rfl (by decide +kernel)) (
  zcons (zk_ifne (pc := 65) (off := 7) (by decide) (by decide +kernel)) (
  zcons (zk_iload_n (pc := 68) (j := 3) rfl (by decide +kernel)) (
  zcons (zk_goto (pc := 69) (off := 11) (by decide) (by decide +kernel)) (
  zcons (zk_aload_n (pc := 72) (j := 0) rfl (by decide +kernel)) (
  zcons (zk_getr (pc := 73) (ci := 7) (j := 2) rfl zinX7 (by decide) zw_256 (by decide +kernel)) (
  zcons (zk_iload_n (pc := 76) (j := 3) rfl (by decide +kernel)) (
  zcons (zk_cviN (pc := 77) 70 rfl (ci := 5) rfl zw_486 zw_488 zsel_X5_tearsOf zds_X5_tearsOf (by decide) zw_489 zw_3 (by decide +kernel)) (
  zcons (zk_reti (pc := 80) rfl (by decide +kernel)) (znil)))))))))))))))))))))))))))))))))))))))))
def tb_X7_ways : List (Nat × ZP) := [(0, zo_al 0 1), (1, zo_il 1 2), (2, zo_cvi 7 125 1 5), (5, zo_ifne 11 8), (8, zo_i (-1000001) 10), (10, zo_reti), (11, zo_al 0 12), (12, zo_getr 7 2 15), (15, zo_il 1 16), (16, zo_cvi 5 63 1 19), (19, zo_ifeq 25 22), (22, zo_i (-1000002) 24), (24, zo_reti), (25, zo_al 0 26), (26, zo_getr 7 6 29), (29, zo_al 0 30), (30, zo_getr 7 2 33), (33, zo_cvv 2 11 1 36), (36, zo_al 0 37), (37, zo_getr 7 6 40), (40, zo_al 0 41), (41, zo_getr 7 2 44), (44, zo_il 1 45), (45, zo_cvi 2 23 2 48), (48, zo_reti)]
def cu_X7_ways : List (Nat × List Bool) := []
set_option maxRecDepth 100000 in
set_option maxHeartbeats 4000000 in
theorem ok_X7_ways : ∀ e ∈ tb_X7_ways, ZOK zmt cX7_ways RX7 1 e.1 e.2 :=
  zcons (zk_aload_n (pc := 0) (j := 0) rfl (by decide +kernel)) (
  zcons (zk_iload_n (pc := 1) (j := 1) rfl (by decide +kernel)) (
  zcons (zk_cvi (pc := 2) 125 rfl (ci := 7) rfl zw_457 zw_459 zsel_X7_isCustomer zds_X7_isCustomer (by decide) zw_460 zw_1 (by decide +kernel)) (
  zcons (zk_ifne (pc := 5) (off := 6) (by decide) (by decide +kernel)) (
  zcons (zk_ldc (pc := 8) zw_292 (by decide +kernel)) (
  zcons (zk_reti (pc := 10) rfl (by decide +kernel)) (
  zcons (zk_aload_n (pc := 11) (j := 0) rfl (by decide +kernel)) (
  zcons (zk_getr (pc := 12) (ci := 7) (j := 2) rfl zinX7 (by decide) zw_256 (by decide +kernel)) (
  zcons (zk_iload_n (pc := 15) (j := 1) rfl (by decide +kernel)) (
  zcons (zk_cviN (pc := 16) 63 rfl (ci := 5) rfl zw_469 zw_471 zsel_X5_isServed zds_X5_isServed (by decide) zw_472 zw_3 (by decide +kernel)) (
  zcons (zk_ifeq (pc := 19) (off := 6) (by decide) (by decide +kernel)) (
  zcons (zk_ldc (pc := 22) zw_440 (by decide +kernel)) (
  zcons (zk_reti (pc := 24) rfl (by decide +kernel)) (
  zcons (zk_aload_n (pc := 25) (j := 0) rfl (by decide +kernel)) (
  zcons (zk_getr (pc := 26) (ci := 7) (j := 6) rfl zinX7 (by decide) zw_260 (by decide +kernel)) (
  zcons (zk_aload_n (pc := 29) (j := 0) rfl (by decide +kernel)) (
  zcons (zk_getr (pc := 30) (ci := 7) (j := 2) rfl zinX7 (by decide) zw_256 (by decide +kernel)) (
  zcons (zk_cvvN (pc := 33) 11 rfl (ci := 2) rfl zw_611 zw_613 zsel_X2_weigh zds_X2_weigh (by decide) zw_614 zw_5 (by decide +kernel)) (
  zcons (zk_aload_n (pc := 36) (j := 0) rfl (by decide +kernel)) (
  zcons (zk_getr (pc := 37) (ci := 7) (j := 6) rfl zinX7 (by decide) zw_260 (by decide +kernel)) (
  zcons (zk_aload_n (pc := 40) (j := 0) rfl (by decide +kernel)) (
  zcons (zk_getr (pc := 41) (ci := 7) (j := 2) rfl zinX7 (by decide) zw_256 (by decide +kernel)) (
  zcons (zk_iload_n (pc := 44) (j := 1) rfl (by decide +kernel)) (
  zcons (zk_cviN (pc := 45) 23 rfl (ci := 2) rfl zw_662 zw_664 zsel_X2_countFor zds_X2_countFor (by decide) zw_665 zw_5 (by decide +kernel)) (
  zcons (zk_reti (pc := 48) rfl (by decide +kernel)) (znil)))))))))))))))))))))))))
def tb_X7_thrift : List (Nat × ZP) := [(0, zo_al 0 1), (1, zo_il 1 2), (2, zo_cvi 7 125 1 5), (5, zo_ifeq 15 8), (8, zo_il 2 9), (9, zo_csi 128 1 12), (12, zo_ifne 18 15), (15, zo_i (-1000001) 17), (17, zo_reti), (18, zo_al 0 19), (19, zo_getr 7 2 22), (22, zo_il 1 23), (23, zo_cvi 5 63 1 26), (26, zo_ifeq 32 29), (29, zo_i (-1000002) 31), (31, zo_reti), (32, zo_al 0 33), (33, zo_getr 7 6 36), (36, zo_al 0 37), (37, zo_getr 7 2 40), (40, zo_cvv 2 11 1 43), (43, zo_al 0 44), (44, zo_getr 7 6 47), (47, zo_al 0 48), (48, zo_getr 7 2 51), (51, zo_il 1 52), (52, zo_cvi 2 24 2 55), (55, zo_is 3 56), (56, zo_il 3 57), (57, zo_ifne 64 60), (60, zo_i (-1000000) 63), (63, zo_reti), (64, zo_il 2 65), (65, zo_ifne 72 68), (68, zo_il 3 69), (69, zo_goto 80), (72, zo_al 0 73), (73, zo_getr 7 2 76), (76, zo_il 3 77), (77, zo_cvi 5 68 1 80), (80, zo_reti)]
def cu_X7_thrift : List (Nat × List Bool) := []
set_option maxRecDepth 100000 in
set_option maxHeartbeats 4000000 in
theorem ok_X7_thrift : ∀ e ∈ tb_X7_thrift, ZOK zmt cX7_thrift RX7 1 e.1 e.2 :=
  zcons (zk_aload_n (pc := 0) (j := 0) rfl (by decide +kernel)) (
  zcons (zk_iload_n (pc := 1) (j := 1) rfl (by decide +kernel)) (
  zcons (zk_cvi (pc := 2) 125 rfl (ci := 7) rfl zw_457 zw_459 zsel_X7_isCustomer zds_X7_isCustomer (by decide) zw_460 zw_1 (by decide +kernel)) (
  zcons (zk_ifeq (pc := 5) (off := 10) (by decide) (by decide +kernel)) (
  zcons (zk_iload_n (pc := 8) (j := 2) rfl (by decide +kernel)) (
  zcons (zk_csi (pc := 9) 128 rfl zw_641 zw_642 zds_X7_isEither (by decide) zw_643 zw_1 (by decide +kernel)) (
  zcons (zk_ifne (pc := 12) (off := 6) (by decide) (by decide +kernel)) (
  zcons (zk_ldc (pc := 15) zw_292 (by decide +kernel)) (
  zcons (zk_reti (pc := 17) rfl (by decide +kernel)) (
  zcons (zk_aload_n (pc := 18) (j := 0) rfl (by decide +kernel)) (
  zcons (zk_getr (pc := 19) (ci := 7) (j := 2) rfl zinX7 (by decide) zw_256 (by decide +kernel)) (
  zcons (zk_iload_n (pc := 22) (j := 1) rfl (by decide +kernel)) (
  zcons (zk_cviN (pc := 23) 63 rfl (ci := 5) rfl zw_469 zw_471 zsel_X5_isServed zds_X5_isServed (by decide) zw_472 zw_3 (by decide +kernel)) (
  zcons (zk_ifeq (pc := 26) (off := 6) (by decide) (by decide +kernel)) (
  zcons (zk_ldc (pc := 29) zw_440 (by decide +kernel)) (
  zcons (zk_reti (pc := 31) rfl (by decide +kernel)) (
  zcons (zk_aload_n (pc := 32) (j := 0) rfl (by decide +kernel)) (
  zcons (zk_getr (pc := 33) (ci := 7) (j := 6) rfl zinX7 (by decide) zw_260 (by decide +kernel)) (
  zcons (zk_aload_n (pc := 36) (j := 0) rfl (by decide +kernel)) (
  zcons (zk_getr (pc := 37) (ci := 7) (j := 2) rfl zinX7 (by decide) zw_256 (by decide +kernel)) (
  zcons (zk_cvvN (pc := 40) 11 rfl (ci := 2) rfl zw_611 zw_613 zsel_X2_weigh zds_X2_weigh (by decide) zw_614 zw_5 (by decide +kernel)) (
  zcons (zk_aload_n (pc := 43) (j := 0) rfl (by decide +kernel)) (
  zcons (zk_getr (pc := 44) (ci := 7) (j := 6) rfl zinX7 (by decide) zw_260 (by decide +kernel)) (
  zcons (zk_aload_n (pc := 47) (j := 0) rfl (by decide +kernel)) (
  zcons (zk_getr (pc := 48) (ci := 7) (j := 2) rfl zinX7 (by decide) zw_256 (by decide +kernel)) (
  zcons (zk_iload_n (pc := 51) (j := 1) rfl (by decide +kernel)) (
  zcons (zk_cviN (pc := 52) 24 rfl (ci := 2) rfl zw_670 zw_672 zsel_X2_cheapestFor zds_X2_cheapestFor (by decide) zw_673 zw_5 (by decide +kernel)) (
  zcons (zk_istore_n (pc := 55) (j := 3) rfl (by decide +kernel)) (
  zcons (zk_iload_n (pc := 56) (j := 3) rfl (by decide +kernel)) (
  zcons (zk_ifne (pc := 57) (off := 7) (by decide) (by decide +kernel)) (
  zcons (zk_ldcw (pc := 60) zw_657 (by decide +kernel)) (
  zcons (zk_reti (pc := 63) rfl (by decide +kernel)) (
  zcons (zk_iload_n (pc := 64) (j := 2) rfl (by decide +kernel)) (
  zcons (zk_ifne (pc := 65) (off := 7) (by decide) (by decide +kernel)) (
  zcons (zk_iload_n (pc := 68) (j := 3) rfl (by decide +kernel)) (
  zcons (zk_goto (pc := 69) (off := 11) (by decide) (by decide +kernel)) (
  zcons (zk_aload_n (pc := 72) (j := 0) rfl (by decide +kernel)) (
  zcons (zk_getr (pc := 73) (ci := 7) (j := 2) rfl zinX7 (by decide) zw_256 (by decide +kernel)) (
  zcons (zk_iload_n (pc := 76) (j := 3) rfl (by decide +kernel)) (
  zcons (zk_cviN (pc := 77) 68 rfl (ci := 5) rfl zw_473 zw_475 zsel_X5_paysOf zds_X5_paysOf (by decide) zw_476 zw_3 (by decide +kernel)) (
  zcons (zk_reti (pc := 80) rfl (by decide +kernel)) (znil)))))))))))))))))))))))))))))))))))))))))
def tb_X7_serving : List (Nat × ZP) := [(0, zo_al 0 1), (1, zo_cvi 7 122 0 4), (4, zo_ifne 10 7), (7, zo_i (-1000002) 9), (9, zo_reti), (10, zo_il 1 11), (11, zo_i (-2) 13), (13, zo_iclt 27 16), (16, zo_il 1 17), (17, zo_al 0 18), (18, zo_getr 7 2 21), (21, zo_get 5 2 24), (24, zo_iclt 30 27), (27, zo_i (-1000001) 29), (29, zo_reti), (30, zo_al 0 31), (31, zo_getr 7 6 34), (34, zo_al 0 35), (35, zo_getr 7 2 38), (38, zo_cvv 2 11 1 41), (41, zo_al 0 42), (42, zo_getr 7 6 45), (45, zo_al 0 46), (46, zo_getr 7 2 49), (49, zo_cvi 2 25 1 52), (52, zo_is 2 53), (53, zo_il 1 54), (54, zo_i (-1) 55), (55, zo_icne 63 58), (58, zo_il 2 59), (59, zo_csi 233 1 62), (62, zo_reti), (63, zo_il 1 64), (64, zo_i (-2) 66), (66, zo_icne 73 69), (69, zo_il 2 70), (70, zo_goto 86), (73, zo_al 0 74), (74, zo_getr 7 6 77), (77, zo_al 0 78), (78, zo_getr 7 2 81), (81, zo_il 2 82), (82, zo_il 1 83), (83, zo_cvi 2 32 3 86), (86, zo_reti)]
def cu_X7_serving : List (Nat × List Bool) := []
set_option maxRecDepth 100000 in
set_option maxHeartbeats 4000000 in
theorem ok_X7_serving : ∀ e ∈ tb_X7_serving, ZOK zmt cX7_serving RX7 1 e.1 e.2 :=
  zcons (zk_aload_n (pc := 0) (j := 0) rfl (by decide +kernel)) (
  zcons (zk_cvi (pc := 1) 122 rfl (ci := 7) rfl zw_529 zw_531 zsel_X7_isThere zds_X7_isThere (by decide) zw_532 zw_1 (by decide +kernel)) (
  zcons (zk_ifne (pc := 4) (off := 6) (by decide) (by decide +kernel)) (
  zcons (zk_ldc (pc := 7) zw_440 (by decide +kernel)) (
  zcons (zk_reti (pc := 9) rfl (by decide +kernel)) (
  zcons (zk_iload_n (pc := 10) (j := 1) rfl (by decide +kernel)) (
  zcons (zk_bipush (pc := 11) (z := (-2)) (by decide) (by decide +kernel)) (
  zcons (zk_iclt (pc := 13) (off := 14) (by decide) (by decide +kernel)) (
  zcons (zk_iload_n (pc := 16) (j := 1) rfl (by decide +kernel)) (
  zcons (zk_aload_n (pc := 17) (j := 0) rfl (by decide +kernel)) (
  zcons (zk_getr (pc := 18) (ci := 7) (j := 2) rfl zinX7 (by decide) zw_256 (by decide +kernel)) (
  zcons (zk_getN (pc := 21) (ci := 5) (j := 2) rfl zinX5 (by decide) zw_70 (by decide +kernel)) (
  zcons (zk_iclt (pc := 24) (off := 6) (by decide) (by decide +kernel)) (
  zcons (zk_ldc (pc := 27) zw_292 (by decide +kernel)) (
  zcons (zk_reti (pc := 29) rfl (by decide +kernel)) (
  zcons (zk_aload_n (pc := 30) (j := 0) rfl (by decide +kernel)) (
  zcons (zk_getr (pc := 31) (ci := 7) (j := 6) rfl zinX7 (by decide) zw_260 (by decide +kernel)) (
  zcons (zk_aload_n (pc := 34) (j := 0) rfl (by decide +kernel)) (
  zcons (zk_getr (pc := 35) (ci := 7) (j := 2) rfl zinX7 (by decide) zw_256 (by decide +kernel)) (
  zcons (zk_cvvN (pc := 38) 11 rfl (ci := 2) rfl zw_611 zw_613 zsel_X2_weigh zds_X2_weigh (by decide) zw_614 zw_5 (by decide +kernel)) (
  zcons (zk_aload_n (pc := 41) (j := 0) rfl (by decide +kernel)) (
  zcons (zk_getr (pc := 42) (ci := 7) (j := 6) rfl zinX7 (by decide) zw_260 (by decide +kernel)) (
  zcons (zk_aload_n (pc := 45) (j := 0) rfl (by decide +kernel)) (
  zcons (zk_getr (pc := 46) (ci := 7) (j := 2) rfl zinX7 (by decide) zw_256 (by decide +kernel)) (
  zcons (zk_cviN (pc := 49) 25 rfl (ci := 2) rfl zw_678 zw_680 zsel_X2_mostServed zds_X2_mostServed (by decide) zw_681 zw_5 (by decide +kernel)) (
  zcons (zk_istore_n (pc := 52) (j := 2) rfl (by decide +kernel)) (
  zcons (zk_iload_n (pc := 53) (j := 1) rfl (by decide +kernel)) (
  zcons (zk_iconst (pc := 54) (z := (-1)) (by decide) (by decide +kernel)) (
  zcons (zk_icne (pc := 55) (off := 8) (by decide) (by decide +kernel)) (
  zcons (zk_iload_n (pc := 58) (j := 2) rfl (by decide +kernel)) (
  zcons (zk_csi (pc := 59) 233 rfl zw_517 zw_423 zds_J6_bitCount_0f7a4 (by decide) zw_424 zw_13 (by decide +kernel)) (
  zcons (zk_reti (pc := 62) rfl (by decide +kernel)) (
  zcons (zk_iload_n (pc := 63) (j := 1) rfl (by decide +kernel)) (
  zcons (zk_bipush (pc := 64) (z := (-2)) (by decide) (by decide +kernel)) (
  zcons (zk_icne (pc := 66) (off := 7) (by decide) (by decide +kernel)) (
  zcons (zk_iload_n (pc := 69) (j := 2) rfl (by decide +kernel)) (
  zcons (zk_goto (pc := 70) (off := 16) (by decide) (by decide +kernel)) (
  zcons (zk_aload_n (pc := 73) (j := 0) rfl (by decide +kernel)) (
  zcons (zk_getr (pc := 74) (ci := 7) (j := 6) rfl zinX7 (by decide) zw_260 (by decide +kernel)) (
  zcons (zk_aload_n (pc := 77) (j := 0) rfl (by decide +kernel)) (
  zcons (zk_getr (pc := 78) (ci := 7) (j := 2) rfl zinX7 (by decide) zw_256 (by decide +kernel)) (
  zcons (zk_iload_n (pc := 81) (j := 2) rfl (by decide +kernel)) (
  zcons (zk_iload_n (pc := 82) (j := 1) rfl (by decide +kernel)) (
  zcons (zk_cviN (pc := 83) 32 rfl (ci := 2) rfl zw_709 zw_711 zsel_X2_pieceAmongServed zds_X2_pieceAmongServed (by decide) zw_712 zw_5 (by decide +kernel)) (
  zcons (zk_reti (pc := 86) rfl (by decide +kernel)) (znil)))))))))))))))))))))))))))))))))))))))))))))
def tb_X7_couples : List (Nat × ZP) := [(0, zo_al 0 1), (1, zo_cvi 7 122 0 4), (4, zo_ifne 10 7), (7, zo_i (-1000002) 9), (9, zo_reti), (10, zo_al 0 11), (11, zo_getr 7 6 14), (14, zo_al 0 15), (15, zo_getr 7 2 18), (18, zo_cvi 2 34 1 21), (21, zo_reti)]
def cu_X7_couples : List (Nat × List Bool) := []
set_option maxRecDepth 100000 in
set_option maxHeartbeats 4000000 in
theorem ok_X7_couples : ∀ e ∈ tb_X7_couples, ZOK zmt cX7_couples RX7 1 e.1 e.2 :=
  zcons (zk_aload_n (pc := 0) (j := 0) rfl (by decide +kernel)) (
  zcons (zk_cvi (pc := 1) 122 rfl (ci := 7) rfl zw_529 zw_531 zsel_X7_isThere zds_X7_isThere (by decide) zw_532 zw_1 (by decide +kernel)) (
  zcons (zk_ifne (pc := 4) (off := 6) (by decide) (by decide +kernel)) (
  zcons (zk_ldc (pc := 7) zw_440 (by decide +kernel)) (
  zcons (zk_reti (pc := 9) rfl (by decide +kernel)) (
  zcons (zk_aload_n (pc := 10) (j := 0) rfl (by decide +kernel)) (
  zcons (zk_getr (pc := 11) (ci := 7) (j := 6) rfl zinX7 (by decide) zw_260 (by decide +kernel)) (
  zcons (zk_aload_n (pc := 14) (j := 0) rfl (by decide +kernel)) (
  zcons (zk_getr (pc := 15) (ci := 7) (j := 2) rfl zinX7 (by decide) zw_256 (by decide +kernel)) (
  zcons (zk_cviN (pc := 18) 34 rfl (ci := 2) rfl zw_721 zw_723 zsel_X2_countCouplings zds_X2_countCouplings (by decide) zw_724 zw_5 (by decide +kernel)) (
  zcons (zk_reti (pc := 21) rfl (by decide +kernel)) (znil)))))))))))
def tb_X7_parting : List (Nat × ZP) := [(0, zo_al 0 1), (1, zo_il 1 2), (2, zo_il 2 3), (3, zo_cvi 7 124 2 6), (6, zo_ifeq 16 9), (9, zo_il 3 10), (10, zo_csi 128 1 13), (13, zo_ifne 19 16), (16, zo_i (-1000001) 18), (18, zo_reti), (19, zo_al 0 20), (20, zo_getr 7 2 23), (23, zo_il 1 24), (24, zo_cvi 5 61 1 27), (27, zo_ifeq 41 30), (30, zo_al 0 31), (31, zo_getr 7 2 34), (34, zo_il 2 35), (35, zo_cvi 5 61 1 38), (38, zo_ifne 44 41), (41, zo_i (-1000002) 43), (43, zo_reti), (44, zo_al 0 45), (45, zo_getr 7 6 48), (48, zo_al 0 49), (49, zo_getr 7 2 52), (52, zo_il 1 53), (53, zo_il 2 54), (54, zo_cvi 2 35 3 57), (57, zo_is 4 59), (59, zo_il 3 60), (60, zo_ifne 75 63), (63, zo_al 0 64), (64, zo_getr 7 2 67), (67, zo_il 4 69), (69, zo_cvi 5 70 1 72), (72, zo_goto 77), (75, zo_il 4 77), (77, zo_reti)]
def cu_X7_parting : List (Nat × List Bool) := []
set_option maxRecDepth 100000 in
set_option maxHeartbeats 4000000 in
theorem ok_X7_parting : ∀ e ∈ tb_X7_parting, ZOK zmt cX7_parting RX7 1 e.1 e.2 :=
  zcons (zk_aload_n (pc := 0) (j := 0) rfl (by decide +kernel)) (
  zcons (zk_iload_n (pc := 1) (j := 1) rfl (by decide +kernel)) (
  zcons (zk_iload_n (pc := 2) (j := 2) rfl (by decide +kernel)) (
  zcons (zk_cvi (pc := 3) 124 rfl (ci := 7) rfl zw_729 zw_731 zsel_X7_areTwoCells zds_X7_areTwoCells (by decide) zw_732 zw_1 (by decide +kernel)) (
  zcons (zk_ifeq (pc := 6) (off := 10) (by decide) (by decide +kernel)) (
  zcons (zk_iload_n (pc := 9) (j := 3) rfl (by decide +kernel)) (
  zcons (zk_csi (pc := 10) 128 rfl zw_641 zw_642 zds_X7_isEither (by decide) zw_643 zw_1 (by decide +kernel)) (
  zcons (zk_ifne (pc := 13) (off := 6) (by decide) (by decide +kernel)) (
  zcons (zk_ldc (pc := 16) zw_292 (by decide +kernel)) (
  zcons (zk_reti (pc := 18) rfl (by decide +kernel)) (
  zcons (zk_aload_n (pc := 19) (j := 0) rfl (by decide +kernel)) (
  zcons (zk_getr (pc := 20) (ci := 7) (j := 2) rfl zinX7 (by decide) zw_256 (by decide +kernel)) (
  zcons (zk_iload_n (pc := 23) (j := 1) rfl (by decide +kernel)) (
  zcons (zk_cviN (pc := 24) 61 rfl (ci := 5) rfl zw_509 zw_511 zsel_X5_isOn zds_X5_isOn (by decide) zw_512 zw_3 (by decide +kernel)) (
  zcons (zk_ifeq (pc := 27) (off := 14) (by decide) (by decide +kernel)) (
  zcons (zk_aload_n (pc := 30) (j := 0) rfl (by decide +kernel)) (
  zcons (zk_getr (pc := 31) (ci := 7) (j := 2) rfl zinX7 (by decide) zw_256 (by decide +kernel)) (
  zcons (zk_iload_n (pc := 34) (j := 2) rfl (by decide +kernel)) (
  zcons (zk_cviN (pc := 35) 61 rfl (ci := 5) rfl zw_509 zw_511 zsel_X5_isOn zds_X5_isOn (by decide) zw_512 zw_3 (by decide +kernel)) (
  zcons (zk_ifne (pc := 38) (off := 6) (by decide) (by decide +kernel)) (
  zcons (zk_ldc (pc := 41) zw_440 (by decide +kernel)) (
  zcons (zk_reti (pc := 43) rfl (by decide +kernel)) (
  zcons (zk_aload_n (pc := 44) (j := 0) rfl (by decide +kernel)) (
  zcons (zk_getr (pc := 45) (ci := 7) (j := 6) rfl zinX7 (by decide) zw_260 (by decide +kernel)) (
  zcons (zk_aload_n (pc := 48) (j := 0) rfl (by decide +kernel)) (
  zcons (zk_getr (pc := 49) (ci := 7) (j := 2) rfl zinX7 (by decide) zw_256 (by decide +kernel)) (
  zcons (zk_iload_n (pc := 52) (j := 1) rfl (by decide +kernel)) (
  zcons (zk_iload_n (pc := 53) (j := 2) rfl (by decide +kernel)) (
  zcons (zk_cviN (pc := 54) 35 rfl (ci := 2) rfl zw_733 zw_735 zsel_X2_sideOf zds_X2_sideOf (by decide) zw_736 zw_5 (by decide +kernel)) (
  zcons (zk_istore (pc := 57) (by decide +kernel)) (
  zcons (zk_iload_n (pc := 59) (j := 3) rfl (by decide +kernel)) (
  zcons (zk_ifne (pc := 60) (off := 15) (by decide) (by decide +kernel)) (
  zcons (zk_aload_n (pc := 63) (j := 0) rfl (by decide +kernel)) (
  zcons (zk_getr (pc := 64) (ci := 7) (j := 2) rfl zinX7 (by decide) zw_256 (by decide +kernel)) (
  zcons (zk_iload (pc := 67) (by decide +kernel)) (
  zcons (zk_cviN (pc := 69) 70 rfl (ci := 5) rfl zw_486 zw_488 zsel_X5_tearsOf zds_X5_tearsOf (by decide) zw_489 zw_3 (by decide +kernel)) (
  zcons (zk_goto (pc := 72) (off := 5) (by decide) (by decide +kernel)) (
  zcons (zk_iload (pc := 75) (by decide +kernel)) (
  zcons (zk_reti (pc := 77) rfl (by decide +kernel)) (znil)))))))))))))))))))))))))))))))))))))))
def tb_X7_way : List (Nat × ZP) := [(0, zo_al 0 1), (1, zo_il 1 2), (2, zo_il 2 3), (3, zo_cvi 7 124 2 6), (6, zo_ifeq 16 9), (9, zo_il 3 10), (10, zo_csi 128 1 13), (13, zo_ifne 19 16), (16, zo_i (-1000001) 18), (18, zo_reti), (19, zo_al 0 20), (20, zo_getr 7 2 23), (23, zo_il 1 24), (24, zo_cvi 5 61 1 27), (27, zo_ifeq 41 30), (30, zo_al 0 31), (31, zo_getr 7 2 34), (34, zo_il 2 35), (35, zo_cvi 5 61 1 38), (38, zo_ifne 44 41), (41, zo_i (-1000002) 43), (43, zo_reti), (44, zo_il 3 45), (45, zo_ifne 60 48), (48, zo_al 0 49), (49, zo_getr 7 2 52), (52, zo_il 1 53), (53, zo_il 2 54), (54, zo_cvi 5 75 2 57), (57, zo_goto 69), (60, zo_al 0 61), (61, zo_getr 7 2 64), (64, zo_il 1 65), (65, zo_il 2 66), (66, zo_cvi 5 76 2 69), (69, zo_reti)]
def cu_X7_way : List (Nat × List Bool) := []
set_option maxRecDepth 100000 in
set_option maxHeartbeats 4000000 in
theorem ok_X7_way : ∀ e ∈ tb_X7_way, ZOK zmt cX7_way RX7 1 e.1 e.2 :=
  zcons (zk_aload_n (pc := 0) (j := 0) rfl (by decide +kernel)) (
  zcons (zk_iload_n (pc := 1) (j := 1) rfl (by decide +kernel)) (
  zcons (zk_iload_n (pc := 2) (j := 2) rfl (by decide +kernel)) (
  zcons (zk_cvi (pc := 3) 124 rfl (ci := 7) rfl zw_729 zw_731 zsel_X7_areTwoCells zds_X7_areTwoCells (by decide) zw_732 zw_1 (by decide +kernel)) (
  zcons (zk_ifeq (pc := 6) (off := 10) (by decide) (by decide +kernel)) (
  zcons (zk_iload_n (pc := 9) (j := 3) rfl (by decide +kernel)) (
  zcons (zk_csi (pc := 10) 128 rfl zw_641 zw_642 zds_X7_isEither (by decide) zw_643 zw_1 (by decide +kernel)) (
  zcons (zk_ifne (pc := 13) (off := 6) (by decide) (by decide +kernel)) (
  zcons (zk_ldc (pc := 16) zw_292 (by decide +kernel)) (
  zcons (zk_reti (pc := 18) rfl (by decide +kernel)) (
  zcons (zk_aload_n (pc := 19) (j := 0) rfl (by decide +kernel)) (
  zcons (zk_getr (pc := 20) (ci := 7) (j := 2) rfl zinX7 (by decide) zw_256 (by decide +kernel)) (
  zcons (zk_iload_n (pc := 23) (j := 1) rfl (by decide +kernel)) (
  zcons (zk_cviN (pc := 24) 61 rfl (ci := 5) rfl zw_509 zw_511 zsel_X5_isOn zds_X5_isOn (by decide) zw_512 zw_3 (by decide +kernel)) (
  zcons (zk_ifeq (pc := 27) (off := 14) (by decide) (by decide +kernel)) (
  zcons (zk_aload_n (pc := 30) (j := 0) rfl (by decide +kernel)) (
  zcons (zk_getr (pc := 31) (ci := 7) (j := 2) rfl zinX7 (by decide) zw_256 (by decide +kernel)) (
  zcons (zk_iload_n (pc := 34) (j := 2) rfl (by decide +kernel)) (
  zcons (zk_cviN (pc := 35) 61 rfl (ci := 5) rfl zw_509 zw_511 zsel_X5_isOn zds_X5_isOn (by decide) zw_512 zw_3 (by decide +kernel)) (
  zcons (zk_ifne (pc := 38) (off := 6) (by decide) (by decide +kernel)) (
  zcons (zk_ldc (pc := 41) zw_440 (by decide +kernel)) (
  zcons (zk_reti (pc := 43) rfl (by decide +kernel)) (
  zcons (zk_iload_n (pc := 44) (j := 3) rfl (by decide +kernel)) (
  zcons (zk_ifne (pc := 45) (off := 15) (by decide) (by decide +kernel)) (
  zcons (zk_aload_n (pc := 48) (j := 0) rfl (by decide +kernel)) (
  zcons (zk_getr (pc := 49) (ci := 7) (j := 2) rfl zinX7 (by decide) zw_256 (by decide +kernel)) (
  zcons (zk_iload_n (pc := 52) (j := 1) rfl (by decide +kernel)) (
  zcons (zk_iload_n (pc := 53) (j := 2) rfl (by decide +kernel)) (
  zcons (zk_cviN (pc := 54) 75 rfl (ci := 5) rfl zw_741 zw_743 zsel_X5_stepsBetween zds_X5_stepsBetween (by decide) zw_744 zw_3 (by decide +kernel)) (
  zcons (zk_goto (pc := 57) (off := 12) (by decide) (by decide +kernel)) (
  zcons (zk_aload_n (pc := 60) (j := 0) rfl (by decide +kernel)) (
  zcons (zk_getr (pc := 61) (ci := 7) (j := 2) rfl zinX7 (by decide) zw_256 (by decide +kernel)) (
  zcons (zk_iload_n (pc := 64) (j := 1) rfl (by decide +kernel)) (
  zcons (zk_iload_n (pc := 65) (j := 2) rfl (by decide +kernel)) (
  zcons (zk_cviN (pc := 66) 76 rfl (ci := 5) rfl zw_745 zw_747 zsel_X5_firstStep zds_X5_firstStep (by decide) zw_748 zw_3 (by decide +kernel)) (
  zcons (zk_reti (pc := 69) rfl (by decide +kernel)) (znil))))))))))))))))))))))))))))))))))))
def tb_X7_lone : List (Nat × ZP) := [(0, zo_al 0 1), (1, zo_cvi 7 122 0 4), (4, zo_ifne 10 7), (7, zo_i (-1000002) 9), (9, zo_reti), (10, zo_al 0 11), (11, zo_getr 7 2 14), (14, zo_al 0 15), (15, zo_getr 7 2 18), (18, zo_get 5 5 21), (21, zo_cvi 5 73 1 24), (24, zo_is 1 25), (25, zo_i 0 26), (26, zo_is 2 27), (27, zo_i 0 28), (28, zo_is 3 29), (29, zo_il 3 30), (30, zo_al 0 31), (31, zo_getr 7 2 34), (34, zo_get 5 1 37), (37, zo_icge 85 40), (40, zo_al 0 41), (41, zo_getr 7 2 44), (44, zo_il 3 45), (45, zo_cvi 5 61 1 48), (48, zo_ifeq 79 51), (51, zo_al 0 52), (52, zo_getr 7 2 55), (55, zo_al 0 56), (56, zo_getr 7 2 59), (59, zo_get 5 5 62), (62, zo_i 1 63), (63, zo_il 3 64), (64, zo_bin zshl 65), (65, zo_bin (· ^^^ ·) 66), (66, zo_cvi 5 73 1 69), (69, zo_il 1 70), (70, zo_icle 79 73), (73, zo_il 2 74), (74, zo_i 1 75), (75, zo_il 3 76), (76, zo_bin zshl 77), (77, zo_bin (· ||| ·) 78), (78, zo_is 2 79), (79, zo_inc 3 1 82), (82, zo_goto 29), (85, zo_il 2 86), (86, zo_reti)]
def cu_X7_lone : List (Nat × List Bool) := [(29, [true, true, true, true])]
set_option maxRecDepth 100000 in
set_option maxHeartbeats 4000000 in
theorem ok_X7_lone : ∀ e ∈ tb_X7_lone, ZOK zmt cX7_lone RX7 1 e.1 e.2 :=
  zcons (zk_aload_n (pc := 0) (j := 0) rfl (by decide +kernel)) (
  zcons (zk_cvi (pc := 1) 122 rfl (ci := 7) rfl zw_529 zw_531 zsel_X7_isThere zds_X7_isThere (by decide) zw_532 zw_1 (by decide +kernel)) (
  zcons (zk_ifne (pc := 4) (off := 6) (by decide) (by decide +kernel)) (
  zcons (zk_ldc (pc := 7) zw_440 (by decide +kernel)) (
  zcons (zk_reti (pc := 9) rfl (by decide +kernel)) (
  zcons (zk_aload_n (pc := 10) (j := 0) rfl (by decide +kernel)) (
  zcons (zk_getr (pc := 11) (ci := 7) (j := 2) rfl zinX7 (by decide) zw_256 (by decide +kernel)) (
  zcons (zk_aload_n (pc := 14) (j := 0) rfl (by decide +kernel)) (
  zcons (zk_getr (pc := 15) (ci := 7) (j := 2) rfl zinX7 (by decide) zw_256 (by decide +kernel)) (
  zcons (zk_getN (pc := 18) (ci := 5) (j := 5) rfl zinX5 (by decide) zw_80 (by decide +kernel)) (
  zcons (zk_cviN (pc := 21) 73 rfl (ci := 5) rfl zw_564 zw_566 zsel_X5_countParts zds_X5_countParts (by decide) zw_567 zw_3 (by decide +kernel)) (
  zcons (zk_istore_n (pc := 24) (j := 1) rfl (by decide +kernel)) (
  zcons (zk_iconst (pc := 25) (z := 0) (by decide) (by decide +kernel)) (
  zcons (zk_istore_n (pc := 26) (j := 2) rfl (by decide +kernel)) (
  zcons (zk_iconst (pc := 27) (z := 0) (by decide) (by decide +kernel)) (
  zcons (zk_istore_n (pc := 28) (j := 3) rfl (by decide +kernel)) (
  zcons (zk_iload_n (pc := 29) (j := 3) rfl (by decide +kernel)) (
  zcons (zk_aload_n (pc := 30) (j := 0) rfl (by decide +kernel)) (
  zcons (zk_getr (pc := 31) (ci := 7) (j := 2) rfl zinX7 (by decide) zw_256 (by decide +kernel)) (
  zcons (zk_getN (pc := 34) (ci := 5) (j := 1) rfl zinX5 (by decide) zw_67 (by decide +kernel)) (
  zcons (zk_icge (pc := 37) (off := 48) (by decide) (by decide +kernel)) (
  zcons (zk_aload_n (pc := 40) (j := 0) rfl (by decide +kernel)) (
  zcons (zk_getr (pc := 41) (ci := 7) (j := 2) rfl zinX7 (by decide) zw_256 (by decide +kernel)) (
  zcons (zk_iload_n (pc := 44) (j := 3) rfl (by decide +kernel)) (
  zcons (zk_cviN (pc := 45) 61 rfl (ci := 5) rfl zw_509 zw_511 zsel_X5_isOn zds_X5_isOn (by decide) zw_512 zw_3 (by decide +kernel)) (
  zcons (zk_ifeq (pc := 48) (off := 31) (by decide) (by decide +kernel)) (
  zcons (zk_aload_n (pc := 51) (j := 0) rfl (by decide +kernel)) (
  zcons (zk_getr (pc := 52) (ci := 7) (j := 2) rfl zinX7 (by decide) zw_256 (by decide +kernel)) (
  zcons (zk_aload_n (pc := 55) (j := 0) rfl (by decide +kernel)) (
  zcons (zk_getr (pc := 56) (ci := 7) (j := 2) rfl zinX7 (by decide) zw_256 (by decide +kernel)) (
  zcons (zk_getN (pc := 59) (ci := 5) (j := 5) rfl zinX5 (by decide) zw_80 (by decide +kernel)) (
  zcons (zk_iconst (pc := 62) (z := 1) (by decide) (by decide +kernel)) (
  zcons (zk_iload_n (pc := 63) (j := 3) rfl (by decide +kernel)) (
  zcons (zk_ishl (pc := 64) (by decide +kernel)) (
  zcons (zk_ixor (pc := 65) (by decide +kernel)) (
  zcons (zk_cviN (pc := 66) 73 rfl (ci := 5) rfl zw_564 zw_566 zsel_X5_countParts zds_X5_countParts (by decide) zw_567 zw_3 (by decide +kernel)) (
  zcons (zk_iload_n (pc := 69) (j := 1) rfl (by decide +kernel)) (
  zcons (zk_icle (pc := 70) (off := 9) (by decide) (by decide +kernel)) (
  zcons (zk_iload_n (pc := 73) (j := 2) rfl (by decide +kernel)) (
  zcons (zk_iconst (pc := 74) (z := 1) (by decide) (by decide +kernel)) (
  zcons (zk_iload_n (pc := 75) (j := 3) rfl (by decide +kernel)) (
  zcons (zk_ishl (pc := 76) (by decide +kernel)) (
  zcons (zk_ior (pc := 77) (by decide +kernel)) (
  zcons (zk_istore_n (pc := 78) (j := 2) rfl (by decide +kernel)) (
  zcons (zk_iinc (pc := 79) (z := 1) (by decide) (by decide +kernel)) (
  zcons (zk_goto (pc := 82) (off := (-53)) (by decide) (by decide +kernel)) (
  zcons (zk_iload_n (pc := 85) (j := 2) rfl (by decide +kernel)) (
  zcons (zk_reti (pc := 86) rfl (by decide +kernel)) (znil))))))))))))))))))))))))))))))))))))))))))))))))
def tb_X7_who : List (Nat × ZP) := [(0, zo_al 0 1), (1, zo_il 1 2), (2, zo_cvi 7 123 1 5), (5, zo_ifeq 26 8), (8, zo_il 2 9), (9, zo_csi 128 1 12), (12, zo_ifeq 26 15), (15, zo_il 3 16), (16, zo_il 5 18), (18, zo_il 7 20), (20, zo_csi 129 3 23), (23, zo_ifne 29 26), (26, zo_i (-1000001) 28), (28, zo_reti), (29, zo_al 0 30), (30, zo_il 3 31), (31, zo_il 4 33), (33, zo_il 5 35), (35, zo_il 6 37), (37, zo_il 7 39), (39, zo_cvi 7 136 5 42), (42, zo_is 8 44), (44, zo_il 8 46), (46, zo_ifeq 56 49), (49, zo_al 0 50), (50, zo_il 8 52), (52, zo_cvi 7 120 1 55), (55, zo_reti), (56, zo_al 0 57), (57, zo_il 2 58), (58, zo_ifne 69 61), (61, zo_al 0 62), (62, zo_il 1 63), (63, zo_cvi 7 137 1 66), (66, zo_goto 74), (69, zo_al 0 70), (70, zo_il 1 71), (71, zo_cvi 7 138 1 74), (74, zo_cvi 7 121 1 77), (77, zo_reti)]
def cu_X7_who : List (Nat × List Bool) := []
set_option maxRecDepth 100000 in
set_option maxHeartbeats 4000000 in
theorem ok_X7_who : ∀ e ∈ tb_X7_who, ZOK zmt cX7_who RX7 1 e.1 e.2 :=
  zcons (zk_aload_n (pc := 0) (j := 0) rfl (by decide +kernel)) (
  zcons (zk_iload_n (pc := 1) (j := 1) rfl (by decide +kernel)) (
  zcons (zk_cvi (pc := 2) 123 rfl (ci := 7) rfl zw_505 zw_507 zsel_X7_isCell zds_X7_isCell (by decide) zw_508 zw_1 (by decide +kernel)) (
  zcons (zk_ifeq (pc := 5) (off := 21) (by decide) (by decide +kernel)) (
  zcons (zk_iload_n (pc := 8) (j := 2) rfl (by decide +kernel)) (
  zcons (zk_csi (pc := 9) 128 rfl zw_641 zw_642 zds_X7_isEither (by decide) zw_643 zw_1 (by decide +kernel)) (
  zcons (zk_ifeq (pc := 12) (off := 14) (by decide) (by decide +kernel)) (
  zcons (zk_iload_n (pc := 15) (j := 3) rfl (by decide +kernel)) (
  zcons (zk_iload (pc := 16) (by decide +kernel)) (
  zcons (zk_iload (pc := 18) (by decide +kernel)) (
  zcons (zk_csi (pc := 20) 129 rfl zw_758 zw_759 zds_X7_areRowsOf (by decide) zw_760 zw_1 (by decide +kernel)) (
  zcons (zk_ifne (pc := 23) (off := 6) (by decide) (by decide +kernel)) (
  zcons (zk_ldc (pc := 26) zw_292 (by decide +kernel)) (
  zcons (zk_reti (pc := 28) rfl (by decide +kernel)) (
  zcons (zk_aload_n (pc := 29) (j := 0) rfl (by decide +kernel)) (
  zcons (zk_iload_n (pc := 30) (j := 3) rfl (by decide +kernel)) (
  zcons (zk_iload (pc := 31) (by decide +kernel)) (
  zcons (zk_iload (pc := 33) (by decide +kernel)) (
  zcons (zk_iload (pc := 35) (by decide +kernel)) (
  zcons (zk_iload (pc := 37) (by decide +kernel)) (
  zcons (zk_cvi (pc := 39) 136 rfl (ci := 7) rfl zw_761 zw_763 zsel_X7_takeTold zds_X7_takeTold (by decide) zw_764 zw_1 (by decide +kernel)) (
  zcons (zk_istore (pc := 42) (by decide +kernel)) (
  zcons (zk_iload (pc := 44) (by decide +kernel)) (
  zcons (zk_ifeq (pc := 46) (off := 10) (by decide) (by decide +kernel)) (
  zcons (zk_aload_n (pc := 49) (j := 0) rfl (by decide +kernel)) (
  zcons (zk_iload (pc := 50) (by decide +kernel)) (
  zcons (zk_cvi (pc := 52) 120 rfl (ci := 7) rfl zw_293 zw_295 zsel_X7_found zds_X7_found (by decide) zw_296 zw_1 (by decide +kernel)) (
  zcons (zk_reti (pc := 55) rfl (by decide +kernel)) (
  zcons (zk_aload_n (pc := 56) (j := 0) rfl (by decide +kernel)) (
  zcons (zk_iload_n (pc := 57) (j := 2) rfl (by decide +kernel)) (
  zcons (zk_ifne (pc := 58) (off := 11) (by decide) (by decide +kernel)) (
  zcons (zk_aload_n (pc := 61) (j := 0) rfl (by decide +kernel)) (
  zcons (zk_iload_n (pc := 62) (j := 1) rfl (by decide +kernel)) (
  zcons (zk_cvi (pc := 63) 137 rfl (ci := 7) rfl zw_773 zw_775 zsel_X7_kindsThatFit zds_X7_kindsThatFit (by decide) zw_776 zw_1 (by decide +kernel)) (
  zcons (zk_goto (pc := 66) (off := 8) (by decide) (by decide +kernel)) (
  zcons (zk_aload_n (pc := 69) (j := 0) rfl (by decide +kernel)) (
  zcons (zk_iload_n (pc := 70) (j := 1) rfl (by decide +kernel)) (
  zcons (zk_cvi (pc := 71) 138 rfl (ci := 7) rfl zw_783 zw_785 zsel_X7_valuesThatFit zds_X7_valuesThatFit (by decide) zw_786 zw_1 (by decide +kernel)) (
  zcons (zk_cvi (pc := 74) 121 rfl (ci := 7) rfl zw_305 zw_307 zsel_X7_fine zds_X7_fine (by decide) zw_308 zw_1 (by decide +kernel)) (
  zcons (zk_reti (pc := 77) rfl (by decide +kernel)) (znil))))))))))))))))))))))))))))))))))))))))

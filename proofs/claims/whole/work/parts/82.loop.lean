/-! The law's loop. -/
def zlps : List (Int32 × Nat) := [(0, 208), (1, 251), (2, 294), (3, 357), (4, 380), (5, 403), (6, 416), (7, 429), (8, 442), (9, 475), (10, 498), (11, 521), (12, 554), (13, 577), (14, 610), (15, 643), (16, 666), (17, 699), (18, 722), (19, 755), (20, 778), (21, 811), (22, 834), (23, 867), (24, 890), (25, 903), (26, 946), (27, 989), (28, 1002), (29, 1089), (30, 1164), (31, 1218), (32, 1261), (33, 1284), (34, 1307), (35, 1330), (36, 1363), (37, 1396), (38, 1419), (39, 1442)]
theorem zlsw {p : Program} {l : Launch} {e : Env} {s : State} {m : MethodId} {b L : Nat} {xs : Nat → Int32} {below : List Frame} {meth : Method} {c : Code} {D : va_G} {dA : Nat → ClassId} {ad : Nat → Nat} {A : Nat → Prop} (hC : zCx p room_1 s m #[Value.ref b] c code RL 4 D dA ad A 12 83 6799) (hE : zES zmt l D dA ad A 12 (zenv zbt 12)) {x v : Int32} {M : ZM} (hd : zG p l e s m b below meth c D dA ad A 1455 (zlo x) [] M) (h : ∀ t ∈ ([208, 251, 294, 357, 380, 403, 416, 429, 442, 475, 498, 521, 554, 577, 610, 643, 666, 699, 722, 755, 778, 811, 834, 867, 890, 903, 946, 989, 1002, 1089, 1164, 1218, 1261, 1284, 1307, 1330, 1363, 1396, 1419, 1442] : List Nat), zG p l e s m b below meth c D dA ad A t (zlo x) [] M) : zG p l e s m b below meth c D dA ad A 33 (zlo x) [.int v] M := by
  obtain ⟨t, h1, h2⟩ := zsw_any (k := fun t => some (.inr (t, zlo x, [], M))) (x := v) (d := 1455) zlps
  refine zl_step hC hE (op := zo_sw zlps 1455) (zk_table (pc := 33) (dflt := 1422) (lw := 0) (hi := 39) (offs := #[175, 218, 261, 324, 347, 370, 383, 396, 409, 442, 465, 488, 521, 544, 577, 610, 633, 666, 689, 722, 745, 778, 801, 834, 857, 870, 913, 956, 969, 1056, 1131, 1185, 1228, 1251, 1274, 1297, 1330, 1363, 1386, 1409]) (len := 175) (by decide +kernel) (by decide +kernel)) (pc' := t) (lo' := zlo x) (st' := []) (M' := M) h2 ?_
  rcases h1 with rfl | h1
  · exact hd
  · exact h t h1
set_option maxHeartbeats 2000000 in
theorem zl_loop {p : Program} {l : Launch} {e : Env} {s : State} {m : MethodId} {b L : Nat} {xs : Nat → Int32} {below : List Frame} {meth : Method} {c : Code} {D : va_G} {dA : Nat → ClassId} {ad : Nat → Nat} {A : Nat → Prop} (hC : zCx p room_1 s m #[Value.ref b] c code RL 4 D dA ad A 12 83 6799) (hE : zES zmt l D dA ad A 12 (zenv zbt 12)) (hX : va_X b L xs s s.heap) (hbl : b < s.heap.size) (hbA : ¬ A b) (had : ad 2000 = b) (hL : L ≤ 512) (hr : meth.sig.returnType = ret) (hlocks : meth.locks = false) (hAq : ∀ q, A q → s.heap.size ≤ q) : ∀ (n i : Nat) (S : Nat → Nat) (M : ZM), L - i < n → i ≤ L → zInv S M → zG p l e s m b below meth c D dA ad A 18 (zlo (nI i)) [] M := by
  intro n
  induction n with
  | zero => exact fun i S M h => absurd h (Nat.not_lt_zero _)
  | succ n ih =>
    intro i S M hn hi hI H locs ls hP hS hLH hlen
    have hx := hC.1
    have hb := hC.2.1
    have h0 : ls[0]? = some (.val (.ref b)) := by
      rw [← had]
      exact hLH.2.2 0 (.ref 2000) rfl
    have h3 : ls[3]? = some (.val (.int (nI i))) := hLH.2.2 3 (.int (nI i)) rfl
    refine lv_iload_n (k := 3) hx hb (by decide +kernel) rfl h3 ?_
    refine lv_aload_n (k := 0) hx hb (by decide +kernel) rfl h0 ?_
    refine va_slen hx hb hX hbl hbA hS (by decide +kernel) ?_
    refine lv_bipush (n := 8) (v := nI 8) hx hb (by decide +kernel) (by decide +kernel) ?_
    refine lv_isub hx hb (by decide +kernel) ?_
    refine lv_icmp_gt (off := 1437) (tgt := 1461) hx hb (by decide +kernel) (by decide) (fun _ => ?_) (fun hlt => ?_)
    · refine lv_iconst (n := 1) (v := 1) hx hb (by decide +kernel) (by decide) ?_
      refine va_forget (fun q hq => hAq _ (hS.2.2 q hq)) ?_
      refine W.widen (k := 600000) (n := 7302250) (by decide) (by decide) ?_
      exact lw_ret hx hb hr hlocks (by decide +kernel)
    · have hi8 : i + 8 ≤ L := by
        have h1 : ¬ nI L - nI 8 < nI i := hlt
        rw [zgs (nI i) (by omega) (by omega), nI_toInt (by omega)] at h1
        omega
      have hin : ∀ k, k < 8 → vp_in (nI i + nI k) L := fun k hk => by
        rw [nI_add]
        exact vp_in_nI (by omega) (by omega)
      have hin0 : vp_in (nI i) L := vp_in_nI (by omega) (by omega)
      have kk : ∀ S' M', zInv S' M' → zG p l e s m b below meth c D dA ad A 1455 (zlo (nI i)) [] M' := by
        intro S' M' hI'
        refine zl_step hC hE (zk_iinc (pc := 1455) (i := 3) (z := 8) (v := nI 8) (by decide +kernel) (by decide +kernel)) (pc' := 1458) (lo' := zlo (nI i + nI 8)) (st' := []) (M' := M') rfl ?_
        refine zl_step hC hE (zk_goto (pc := 1458) (off := -1440) (t := 18) (by decide) (by decide +kernel)) (pc' := 18) (lo' := zlo (nI i + nI 8)) (st' := []) (M' := M') rfl ?_
        rw [nI_add]
        exact ih (i + 8) S' M' (by omega) (by omega) hI'
      refine lv_aload_n (k := 0) hx hb (by decide +kernel) rfl h0 ?_
      refine lv_iload_n (k := 3) hx hb (by decide +kernel) rfl h3 ?_
      refine va_sld hx hb hX hbl hbA hS hin0 (by decide +kernel) ?_
      refine lv_bipush (n := 63) (v := 63) hx hb (by decide +kernel) (by decide +kernel) ?_
      refine lv_iand hx hb (by decide +kernel) ?_
      exact zlsw (L := L) (xs := xs) hC hE (v := xs (nI i).toNatClampNeg &&& 63) (kk S M hI) (List.forall_mem_cons.mpr ⟨zcase0 hC hE hX hbl hbA had hin hI kk, List.forall_mem_cons.mpr ⟨zcase1 hC hE hX hbl hbA had hin hI kk, List.forall_mem_cons.mpr ⟨zcase2 hC hE hX hbl hbA had hin hI kk, List.forall_mem_cons.mpr ⟨zcase3 hC hE hX hbl hbA had hin hI kk, List.forall_mem_cons.mpr ⟨zcase4 hC hE hX hbl hbA had hin hI kk, List.forall_mem_cons.mpr ⟨zcase5 hC hE hX hbl hbA had hin hI kk, List.forall_mem_cons.mpr ⟨zcase6 hC hE hX hbl hbA had hin hI kk, List.forall_mem_cons.mpr ⟨zcase7 hC hE hX hbl hbA had hin hI kk, List.forall_mem_cons.mpr ⟨zcase8 hC hE hX hbl hbA had hin hI kk, List.forall_mem_cons.mpr ⟨zcase9 hC hE hX hbl hbA had hin hI kk, List.forall_mem_cons.mpr ⟨zcase10 hC hE hX hbl hbA had hin hI kk, List.forall_mem_cons.mpr ⟨zcase11 hC hE hX hbl hbA had hin hI kk, List.forall_mem_cons.mpr ⟨zcase12 hC hE hX hbl hbA had hin hI kk, List.forall_mem_cons.mpr ⟨zcase13 hC hE hX hbl hbA had hin hI kk, List.forall_mem_cons.mpr ⟨zcase14 hC hE hX hbl hbA had hin hI kk, List.forall_mem_cons.mpr ⟨zcase15 hC hE hX hbl hbA had hin hI kk, List.forall_mem_cons.mpr ⟨zcase16 hC hE hX hbl hbA had hin hI kk, List.forall_mem_cons.mpr ⟨zcase17 hC hE hX hbl hbA had hin hI kk, List.forall_mem_cons.mpr ⟨zcase18 hC hE hX hbl hbA had hin hI kk, List.forall_mem_cons.mpr ⟨zcase19 hC hE hX hbl hbA had hin hI kk, List.forall_mem_cons.mpr ⟨zcase20 hC hE hX hbl hbA had hin hI kk, List.forall_mem_cons.mpr ⟨zcase21 hC hE hX hbl hbA had hin hI kk, List.forall_mem_cons.mpr ⟨zcase22 hC hE hX hbl hbA had hin hI kk, List.forall_mem_cons.mpr ⟨zcase23 hC hE hX hbl hbA had hin hI kk, List.forall_mem_cons.mpr ⟨zcase24 hC hE hX hbl hbA had hin hI kk, List.forall_mem_cons.mpr ⟨zcase25 hC hE hX hbl hbA had hin hI kk, List.forall_mem_cons.mpr ⟨zcase26 hC hE hX hbl hbA had hin hI kk, List.forall_mem_cons.mpr ⟨zcase27 hC hE hX hbl hbA had hin hI kk, List.forall_mem_cons.mpr ⟨zcase28 hC hE hX hbl hbA had hin hI kk, List.forall_mem_cons.mpr ⟨zcase29 hC hE hX hbl hbA had hin hI kk, List.forall_mem_cons.mpr ⟨zcase30 hC hE hX hbl hbA had hin hI kk, List.forall_mem_cons.mpr ⟨zcase31 hC hE hX hbl hbA had hin hI kk, List.forall_mem_cons.mpr ⟨zcase32 hC hE hX hbl hbA had hin hI kk, List.forall_mem_cons.mpr ⟨zcase33 hC hE hX hbl hbA had hin hI kk, List.forall_mem_cons.mpr ⟨zcase34 hC hE hX hbl hbA had hin hI kk, List.forall_mem_cons.mpr ⟨zcase35 hC hE hX hbl hbA had hin hI kk, List.forall_mem_cons.mpr ⟨zcase36 hC hE hX hbl hbA had hin hI kk, List.forall_mem_cons.mpr ⟨zcase37 hC hE hX hbl hbA had hin hI kk, List.forall_mem_cons.mpr ⟨zcase38 hC hE hX hbl hbA had hin hI kk, List.forall_mem_cons.mpr ⟨zcase39 hC hE hX hbl hbA had hin hI kk, fun _ h => absurd h List.not_mem_nil⟩⟩⟩⟩⟩⟩⟩⟩⟩⟩⟩⟩⟩⟩⟩⟩⟩⟩⟩⟩⟩⟩⟩⟩⟩⟩⟩⟩⟩⟩⟩⟩⟩⟩⟩⟩⟩⟩⟩⟩) H locs ls hP hS hLH hlen

/-! undo -/
section ZX32
variable {d : Nat} {M : ZM} {S T : Nat → Nat} {b : Nat}
theorem zSheet.cg (hW : zwf S) (hS : zSheet S b M) (h : ∀ k, k < 41 → T k = S k) : zSheet T b M := by
  have hn := hW.n
  have hm := hW.m
  obtain ⟨s0, s1, s2, s3, s4, s5, s6, s7, s8, s9⟩ := hS
  refine zSheet.mk' hn ⟨s0, s1, s2, s3, s4, s5, s6, s7, s8, s9⟩ (fun k hk => h k (by omega)) rfl rfl rfl rfl ?_ ?_ ?_ ?_ rfl rfl rfl rfl (fun i hi => ?_) (fun i hi h5 => ?_) hm
  · rw [h 23 (by omega)]; exact s3
  · rw [h 24 (by omega)]; exact s4
  · rw [zon_cg h]; exact s5
  · rw [h 25 (by omega)]; exact s6
  · rw [h (31 + i) (by omega)]; exact (s8 i hi).2.2
  · rw [h (26 + i) (by omega)]; exact (s9 i hi).2.2
theorem a_undo (hI : zInv S M) : zAl 87 168 [] M := by
  intro d hd
  obtain ⟨d, rfl⟩ : ∃ e, d = e + 1 := ⟨d - 1, by omega⟩
  have hn := hI.wf.n
  have hm := hI.wf.m
  obtain ⟨a, f, P, ha, hf, c1, c2, c3, c4, c5⟩ := hI.2.2.2.2.2.2.2.1
  by_cases h0 : a = 0
  · refine ⟨-1000002, M, M, S, ?_, ?_, hI⟩
    · apply c_X7_undo
      apply zL_of; rw [e_X7_undo_0, c1, h0, if_pos (by decide)]; rfl
    · apply c_X8_undo
      apply zL_of; rw [e_X8_undo_0, c2, h0, if_pos (by decide)]; rfl
  obtain ⟨n, rfl⟩ : ∃ n, a = n + 1 := ⟨a - 1, by omega⟩
  obtain ⟨wP, p2, dd, ww, bb, hbb, p4, p5, p6, hA⟩ := c5 n (by omega)
  have hg : (f + 24 - (n + 1) + n) % 24 = (f + 23) % 24 := by omega
  rw [hg] at p4 p5 p6
  obtain ⟨g, eg⟩ : ∃ g, g = (f + 23) % 24 := ⟨_, rfl⟩
  rw [← eg] at p4 p5 p6
  have hg24 : g < 24 := by omega
  have er : zrem (nI f + 24 - 1) 24 = nI g := by
    rw [show nI f + 24 = nI (f + 24) from nI_add f 24, show nI (f + 24) - 1 = nI (f + 23) from pk_sub (b := 1) (by omega), eg]
    exact pk_rem (d := 24) (by omega) (by decide) (by decide)
  have wQ : zwf (P (n + 1)) := hI.wf.cg c4
  have hlo : ∀ k, k < 23 → P n k = P (n + 1) k := fun k hk => (hA.lo hk).symm
  have hnQ : P (n + 1) 0 ≤ 10 := wQ.n
  have hmQ : P (n + 1) 2 ≤ 5 := wQ.m
  have tail : ∀ M1, zFr [20, 21, 22, 23, 24, 25, 26, 49] M M1 → M1.1 49 3 = nI g → M1.1 49 4 = nI n → zSheet (P n) 20 M1 → ∃ M2, (zenv zbt (d + 1)).1 168 [.ref 66] M1 = some (nI n, M2) ∧ zInv (P n) M2 := by
    intro M1 f1 h3 h4 hS
    have key : ∀ (M3 : ZM), M3.1 66 14 = nI n → ∀ i, i ≤ 18 → zL (zenv zbt d) tb_X8_undo cu_X8_undo 22 [some (.ref 66), some (.int (nI i))] [] (zcp M3 75 (18 * n) 72 23 i) (some (.int (nI n)), zcp M3 75 (18 * n) 72 23 18) := by
      intro M3 h14
      apply zup
      · apply zL_of; rw [e_X8_undo_22, if_pos (by decide), zcp_nc (by decide), h14]; rfl
      · intro i hi ih
        apply zL_of; rw [e_X8_undo_22, if_neg (show ¬ ((18 : Int32) ≤ nI i) from nI_ge hi (by decide)), zcp_nc (by decide), h14, zlit 23, nI_add, zlit 18, pk_mul, nI_add, zck_t (zinN (by omega) (by decide)), zck_t (zinN (by omega) (by decide)), zcN (by omega), zcN (by omega), zcp_nc (by decide), zcp_s, nI_1]
        exact zPo_go ih
    refine ⟨zcp (zw M1 66 14 (nI n)) 75 (18 * n) 72 23 18, ?_, ?_⟩
    · apply c_X8_undo
      apply zL_of; rw [e_X8_undo_0, (f1 66 (by decide)).1, c2, if_neg (nI_ne0 (by omega) (by omega)), nI_pred]
      apply zPo_go
      have := key (zw M1 66 14 (nI n)) (zw_eq _ _ _ _) 0 (by omega)
      rw [zcp_0] at this
      exact this
    · obtain ⟨M2, hM2⟩ : ∃ M2, M2 = zcp (zw M1 66 14 (nI n)) 75 (18 * n) 72 23 18 := ⟨_, rfl⟩
      rw [← hM2]
      have f2 : zFr [66, 72] M1 M2 := by rw [hM2]; exact (zFr.rf.w (by decide)).cp (by decide)
      have fa : zFr [20, 21, 22, 23, 24, 25, 26, 49, 66, 72] M M2 := (f1.mono (by decide)).trans (f2.mono (by decide))
      have h66 : ∀ k, k ≠ 14 → M2.1 66 k = M.1 66 k := fun k hk => by rw [hM2, zcp_nc (by decide), zw_nk hk, (f1 66 (by decide)).1]
      have h72 : ∀ k, k < 41 → M2.1 72 k = nI (P n k) := fun k hk => by
        by_cases q : k < 23
        · rw [hM2, zcp_out (by omega), zw_nc (by decide), (f1 72 (by decide)).1, hlo k q, c4 k (by omega)]
          exact hI.md.1 k hk
        · rw [hM2, zcp_in (by omega) (by omega), zw_nc (by decide), (f1 75 (by decide)).1, p2 (k - 23) (by omega), show 23 + (k - 23) = k by omega]
      have t0 : P n 0 = S 0 := by rw [hlo 0 (by decide), c4 0 (by decide)]
      have t1 : P n 1 = S 1 := by rw [hlo 1 (by decide), c4 1 (by decide)]
      obtain ⟨i1, i2, i3, i4, i5, i6, i7, i8, i9, i10⟩ := hI
      refine ⟨wP, hS.fr f2 (fun j hj => by simp; omega), ⟨h72, fun c hc => ?_⟩, (i4.fr fa (by decide) (by decide) (by decide)).cg t0 t1, fun r hr => zRow.fr hr (i5 r hr) fa (fun c h1 h2 => by simp; omega) (by decide) (by decide) (by decide), ?_, ?_, ?_, i9.fr fa (by decide) (by decide) (fun j hj => by simp; omega), i10.fr fa (by decide) (by decide) (fun j hj => by simp; omega)⟩
      · rw [(fa 74 (by decide)).1, t0, t1]
        exact i3.2 c (by omega)
      · unfold zTape at i6 ⊢
        rw [(fa 18 (by decide)).1, (fa 19 (by decide)).1, (fa 71 (by decide)).1, h66 6 (by decide)]
        exact i6
      · unfold zMisc at i7 ⊢
        rw [(fa 0 (by decide)).1, (fa 18 (by decide)).1, (fa 61 (by decide)).1, (fa 62 (by decide)).1, (fa 79 (by decide)).1, (fa 80 (by decide)).2, h66 4 (by decide), h66 9 (by decide), h66 19 (by decide)]
        exact i7
      · refine ⟨n, g, P, by omega, hg24, ?_, ?_, ?_, fun k _ => rfl, fun j hj => ?_⟩
        · rw [(f2 49 (by decide)).1]; exact h4
        · rw [hM2, zcp_nc (by decide), zw_eq]
        · rw [(f2 49 (by decide)).1]; exact h3
        · rw [(fa 75 (by decide)).1, (fa 50 (by decide)).1, (fa 51 (by decide)).1, (fa 52 (by decide)).1, show (g + 24 - n + j) % 24 = (f + 24 - (n + 1) + j) % 24 by omega]
          exact c5 j (by omega)
  obtain ⟨Mx, hMx⟩ : ∃ Mx, Mx = zw (zw M 49 3 (nI g)) 49 4 (nI n) := ⟨_, rfl⟩
  have fx : zFr [49] M Mx := by rw [hMx]; exact (zFr.rf.w (by decide)).w (by decide)
  have x3 : Mx.1 49 3 = nI g := by rw [hMx, zw_nk (by decide), zw_eq]
  have x4 : Mx.1 49 4 = nI n := by rw [hMx, zw_eq]
  have hSQ : zSheet (P (n + 1)) 20 Mx := (hI.sh.cg hI.wf c4).fr fx (fun j hj => by simp; omega)
  have zt := zinN hg24 (show 24 < 2 ^ 31 by decide)
  have cg : (nI g).toNatClampNeg = g := zcN (by omega)
  have hlz : ∀ M1, (zenv zbt d).2.2 1 [.ref 49, .ref 20] M = some M1 → M1.1 49 4 = nI n → (zenv zbt (d + 1)).1 87 [.ref 0] M = some (nI n, M1) := by
    intro M1 e h4
    apply c_X7_undo
    apply zL_of; rw [e_X7_undo_0, c1, if_neg (nI_ne0 (by omega) (by omega)), e, Option.bind_some, h4]; rfl
  have main : ∃ M1, (zenv zbt d).2.2 1 [.ref 49, .ref 20] M = some M1 ∧ zFr [20, 21, 22, 23, 24, 25, 26] Mx M1 ∧ zSheet (P n) 20 M1 := by
    obtain ⟨d, rfl⟩ : ∃ e, d = e + 1 := ⟨d - 1, by omega⟩
    obtain ⟨s0, s1, s2, s3, s4, s5, s6, s7, s8, s9⟩ := hSQ
    have m20 : Mx.1 20 = M.1 20 := (fx 20 (by decide)).1
    rcases hA with ⟨a0, a1, a2, a3, a4, a5⟩ | ⟨a0, a1, a2, a3, a4, a5⟩ | ⟨a0, a1, a2, a3, a5⟩ | ⟨a0, a1, a2, a5⟩ | ⟨a0, a2, a5⟩
    · subst a0
      have hw : ww < P (n + 1) 2 := by rw [← hlo 2 (by decide)]; exact a1
      have hon := zon_take wQ (T := P n) (w := ww) (by omega) a2 (fun k k1 k2 => (a5 k k1 k2).symm)
      have ho : P (n + 1) 24 - bb = P n 24 := by omega
      refine ⟨zw (zw (zw Mx 20 5 (nI (zon (P (n + 1)) ||| P (n + 1) (26 + ww)))) (20 + 6) ww 0) 20 4 (nI (P n 24)), ?_, ((zFr.rf.w (by decide)).w (by decide)).w (by decide), ?_⟩
      · apply c_X0_takeBackLatest
        apply zL_of; rw [e_X0_takeBackLatest_0 _ _ _ (Or.inl rfl), c3, er, zck_t zt, zck_t zt, cg, p4, if_pos (by decide), p5, c1, nI_pred, ← hMx, s_takeBack (by omega) (Or.inl rfl) wQ ⟨s0, s1, s2, s3, s4, s5, s6, s7, s8, s9⟩ hw, Option.bind_some]
        rw [zw_nc (show 49 ≠ 20 + 6 by decide), zw_nc (show 49 ≠ 20 by decide), x3, zck_t zt, cg, zw_nc (show 52 ≠ 20 + 6 by decide), zw_nc (show 52 ≠ 20 by decide), (fx 52 (by decide)).1, p6, zw_nc (show 20 ≠ 20 + 6 by decide), zw_nk (by decide), s4, pk_sub (by omega), ho]; rfl
      · refine zSheet.mk' hnQ ⟨s0, s1, s2, s3, s4, s5, s6, s7, s8, s9⟩ hlo ?_ ?_ ?_ ?_ ?_ ?_ ?_ ?_ ?_ ?_ ?_ ?_ (fun i hi => ?_) (fun i hi h5 => ?_) hmQ
        all_goals first
          | (simp (disch := decide) only [zw_nc, zw_nk]; done)
          | skip
        · rw [zw_nk (by decide), zw_nc (by decide), zw_nk (by decide), ← a5 23 (by omega) (by omega)]; exact s3
        · rw [zw_eq]
        · rw [zw_nk (by decide), zw_nc (by decide), zw_eq, hon]
        · rw [zw_nk (by decide), zw_nc (by decide), zw_nk (by decide), ← a5 25 (by omega) (by omega)]; exact s6
        · rw [zw_nc (by decide), zw_nc (by decide), zw_nc (by decide), ← a5 (31 + i) (by omega) (by omega)]; exact (s8 i hi).2.2
        · rw [zw_nc (by decide)]
          by_cases q : i = ww
          · rw [q, zw_eq, a2]; rfl
          · rw [zw_nk q, zw_nc (by decide), ← a5 (26 + i) (by omega) (by omega)]; exact (s9 i hi).2.2
    · subst a0
      have hw : ww < P (n + 1) 2 := by rw [← hlo 2 (by decide)]; exact a1
      have hon := zon_sell (S := P (n + 1)) (T := P n) (w := ww) (by omega) a4 a2 (fun k k1 k2 => (a5 k k1).symm)
      refine ⟨zw (zw (zw Mx (20 + 6) ww (nI bb)) 20 5 (nI (zdif (zon (P (n + 1))) bb))) 20 4 (nI (P (n + 1) 24 + 0)), ?_, ((zFr.rf.w (by decide)).w (by decide)).w (by decide), ?_⟩
      · apply c_X0_takeBackLatest
        apply zL_of; rw [e_X0_takeBackLatest_0 _ _ _ (Or.inl rfl), c3, er, zck_t zt, zck_t zt, cg, p4, if_neg (by decide), if_pos (by decide), zck_t zt, p5, p6, c1, nI_pred, ← hMx]
        rw [show (0 : Int32) = nI 0 from rfl, s_sell (by omega) (Or.inl rfl) wQ ⟨s0, s1, s2, s3, s4, s5, s6, s7, s8, s9⟩ hw, Option.bind_some]; rfl
      · refine zSheet.mk' hnQ ⟨s0, s1, s2, s3, s4, s5, s6, s7, s8, s9⟩ hlo ?_ ?_ ?_ ?_ ?_ ?_ ?_ ?_ ?_ ?_ ?_ ?_ (fun i hi => ?_) (fun i hi h5 => ?_) hmQ
        all_goals first
          | (simp (disch := decide) only [zw_nc, zw_nk]; done)
          | skip
        · rw [zw_nk (by decide), zw_nk (by decide), zw_nc (by decide), ← a5 23 (by omega)]; exact s3
        · rw [zw_eq, Nat.add_zero, a5 24 (by omega)]
        · rw [zw_nk (by decide), zw_eq, hon]
        · rw [zw_nk (by decide), zw_nk (by decide), zw_nc (by decide), ← a5 25 (by omega)]; exact s6
        · rw [zw_nc (by decide), zw_nc (by decide), zw_nc (by decide), ← a5 (31 + i) (by omega)]; exact (s8 i hi).2.2
        · rw [zw_nc (by decide), zw_nc (by decide)]
          by_cases q : i = ww
          · rw [q, zw_eq, a2]
          · rw [zw_nk q, ← a5 (26 + i) (by omega)]; exact (s9 i hi).2.2
    · subst a0
      have hw : ww < 10 := by
        have := hlo 0 (by decide)
        omega
      obtain ⟨o1, o2, o3⟩ := zon_iff.mp a2
      have hsp := wQ.sp
      have hon : zon (P n) = zon (P (n + 1)) ||| 2 ^ ww := by
        rw [zon_lose a3 a5]
        apply zeqb
        intro i
        rw [Nat.testBit_or, Bool.or_eq_true, zdif_bit, Bool.and_eq_true, Bool.not_eq_true', z2b]
        constructor
        · intro h
          by_cases q : ww = i
          · exact Or.inr q
          · refine Or.inl ⟨h, ?_⟩
            cases hb : (2 ^ ww).testBit i
            · rfl
            · exact absurd (z2b.mp hb) q
        · rintro (h | h)
          · exact h.1
          · rw [← h]; exact a2
      have h25 : zdif (P (n + 1) 25) (2 ^ ww) = P n 25 := by
        rw [a3]
        apply zeqb
        intro i
        rw [zdif_bit, Bool.and_eq_true, Bool.not_eq_true', Nat.testBit_or, Bool.or_eq_true]
        constructor
        · rintro ⟨h | h, h2⟩
          · exact h
          · rw [h] at h2; cases h2
        · intro h
          refine ⟨Or.inl h, ?_⟩
          cases hb : (2 ^ ww).testBit i
          · rfl
          · rw [← z2b.mp hb, o2] at h; cases h
      refine ⟨zw (zw Mx 20 5 (nI (zon (P (n + 1)) ||| 2 ^ ww))) 20 6 (nI (zdif (P (n + 1) 25) (2 ^ ww))), ?_, (zFr.rf.w (by decide)).w (by decide), ?_⟩
      · apply c_X0_takeBackLatest
        apply zL_of; rw [e_X0_takeBackLatest_0 _ _ _ (Or.inl rfl), c3, er, zck_t zt, zck_t zt, cg, p4, if_neg (by decide), if_neg (by decide), if_pos (by decide), p5, c1, nI_pred, ← hMx, ← m20, s5, s6, show zshl 1 (nI ww) = nI (2 ^ ww) from zshl1 (by omega), zor, zandn (by omega)]; rfl
      · refine zSheet.mk' hnQ ⟨s0, s1, s2, s3, s4, s5, s6, s7, s8, s9⟩ hlo ?_ ?_ ?_ ?_ ?_ ?_ ?_ ?_ ?_ ?_ ?_ ?_ (fun i hi => ?_) (fun i hi h5 => ?_) hmQ
        all_goals first
          | (simp (disch := decide) only [zw_nc, zw_nk]; done)
          | skip
        · rw [zw_nk (by decide), zw_nk (by decide), ← a5 23 (by omega)]; exact s3
        · rw [zw_nk (by decide), zw_nk (by decide), ← a5 24 (by omega)]; exact s4
        · rw [zw_nk (by decide), zw_eq, hon]
        · rw [zw_eq, h25]
        · rw [zw_nc (by decide), zw_nc (by decide), ← a5 (31 + i) (by omega)]; exact (s8 i hi).2.2
        · rw [zw_nc (by decide), zw_nc (by decide), ← a5 (26 + i) (by omega)]; exact (s9 i hi).2.2
    · subst a0
      have hw : ww < 10 := by
        have := hlo 0 (by decide)
        omega
      have hon : zon (P n) = zon (P (n + 1)) := by
        unfold zon zgone
        rw [a5 0 (by omega), a5 25 (by omega), a5 26 (by omega), a5 27 (by omega), a5 28 (by omega), a5 29 (by omega), a5 30 (by omega)]
      refine ⟨zw Mx (20 + 3) ww (nI bb), ?_, zFr.rf.w (by decide), ?_⟩
      · apply c_X0_takeBackLatest
        apply zL_of; rw [e_X0_takeBackLatest_0 _ _ _ (Or.inl rfl), c3, er, zck_t zt, zck_t zt, cg, p4, if_neg (by decide), if_neg (by decide), if_neg (by decide), if_pos (by decide), zck_t zt, p5, p6, zck_t (zinN hw (by decide)), zcN (by omega), c1, nI_pred, ← hMx]; rfl
      · refine zSheet.mk' hnQ ⟨s0, s1, s2, s3, s4, s5, s6, s7, s8, s9⟩ hlo ?_ ?_ ?_ ?_ ?_ ?_ ?_ ?_ ?_ ?_ ?_ ?_ (fun i hi => ?_) (fun i hi h5 => ?_) hmQ
        all_goals first
          | (simp (disch := decide) only [zw_nc, zw_nk]; done)
          | skip
        · rw [zw_nc (by decide), ← a5 23 (by omega)]; exact s3
        · rw [zw_nc (by decide), ← a5 24 (by omega)]; exact s4
        · rw [zw_nc (by decide), hon]; exact s5
        · rw [zw_nc (by decide), ← a5 25 (by omega)]; exact s6
        · by_cases q : i = ww
          · rw [q, zw_eq, a2]
          · rw [zw_nk q, ← a5 (31 + i) (by omega)]; exact (s8 i hi).2.2
        · rw [zw_nc (by decide), ← a5 (26 + i) (by omega)]; exact (s9 i hi).2.2
    · subst a0
      have hon : zon (P n) = zon (P (n + 1)) := by
        unfold zon zgone
        rw [a5 0 (by omega), a5 25 (by omega), a5 26 (by omega), a5 27 (by omega), a5 28 (by omega), a5 29 (by omega), a5 30 (by omega)]
      refine ⟨zw Mx 20 3 (nI bb), ?_, zFr.rf.w (by decide), ?_⟩
      · apply c_X0_takeBackLatest
        apply zL_of; rw [e_X0_takeBackLatest_0 _ _ _ (Or.inl rfl), c3, er, zck_t zt, zck_t zt, cg, p4, if_neg (by decide), if_neg (by decide), if_neg (by decide), if_neg (by decide), zck_t zt, p6, c1, nI_pred, ← hMx]; rfl
      · refine zSheet.mk' hnQ ⟨s0, s1, s2, s3, s4, s5, s6, s7, s8, s9⟩ hlo ?_ ?_ ?_ ?_ ?_ ?_ ?_ ?_ ?_ ?_ ?_ ?_ (fun i hi => ?_) (fun i hi h5 => ?_) hmQ
        all_goals first
          | (simp (disch := decide) only [zw_nc, zw_nk]; done)
          | skip
        · rw [zw_eq, a2]
        · rw [zw_nk (by decide), ← a5 24 (by omega)]; exact s4
        · rw [zw_nk (by decide), hon]; exact s5
        · rw [zw_nk (by decide), ← a5 25 (by omega)]; exact s6
        · rw [zw_nc (by decide), ← a5 (31 + i) (by omega)]; exact (s8 i hi).2.2
        · rw [zw_nc (by decide), ← a5 (26 + i) (by omega)]; exact (s9 i hi).2.2
  obtain ⟨M1, e1, f1, hS1⟩ := main
  have h49 : M1.1 49 = Mx.1 49 := (f1 49 (by decide)).1
  obtain ⟨M2, e2, hI2⟩ := tail M1 ((fx.mono (by decide)).trans (f1.mono (by decide))) (by rw [h49]; exact x3) (by rw [h49]; exact x4) hS1
  exact ⟨nI n, M1, M2, P n, hlz M1 e1 (by rw [h49]; exact x4), e2, hI2⟩
end ZX32

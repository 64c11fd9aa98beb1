/-! Acts: what changes the sheet is kept -/
theorem zon_iff {S : Nat → Nat} {c : Nat} : (zon S).testBit c = true ↔ c < S 0 ∧ (S 25).testBit c = false ∧ ∀ e, e < 5 → (S (26 + e)).testBit c = false := by
  unfold zon zgone
  rw [zdif_bit, Nat.testBit_two_pow_sub_one]
  simp only [Nat.testBit_or, Bool.and_eq_true, decide_eq_true_eq, Bool.not_eq_true', Bool.or_eq_false_iff]
  constructor
  · rintro ⟨h1, ⟨⟨⟨⟨h2, h3⟩, h4⟩, h5⟩, h6⟩, h7⟩
    refine ⟨h1, h2, fun e he => ?_⟩
    have : e = 0 ∨ e = 1 ∨ e = 2 ∨ e = 3 ∨ e = 4 := by omega
    rcases this with rfl | rfl | rfl | rfl | rfl <;> assumption
  · rintro ⟨h1, h2, h3⟩
    exact ⟨h1, ⟨⟨⟨⟨h2, h3 0 (by decide)⟩, h3 1 (by decide)⟩, h3 2 (by decide)⟩, h3 3 (by decide)⟩, h3 4 (by decide)⟩
theorem zeqb {a b : Nat} (h : ∀ i, a.testBit i = true ↔ b.testBit i = true) : a = b := Nat.eq_of_testBit_eq fun i => by
  cases ha : a.testBit i
  · cases hb : b.testBit i
    · rfl
    · rw [(h i).mpr hb] at ha; cases ha
  · rw [(h i).mp ha]
section ZX28
variable {S T : Nat → Nat} {M : ZM}
theorem znb_cg (h0 : T 0 = S 0) (h1 : T 1 = S 1) : znb T = znb S := by
  funext s
  unfold znb
  rw [h0, h1]
theorem zit_cg (h0 : T 0 = S 0) (h1 : T 1 = S 1) (W p : Nat) : ∀ k, zit T W p k = zit S W p k
  | 0 => rfl
  | k + 1 => by rw [zit, zit, zit_cg h0 h1 W p k, zgrow, zgrow, znb_cg h0 h1]
theorem zhang_cg (h0 : T 0 = S 0) (h1 : T 1 = S 1) : zhang T = zhang S := by
  funext a
  unfold zhang zcomp
  rw [zit_cg h0 h1]
theorem zHL_cg (h0 : T 0 = S 0) (h1 : T 1 = S 1) : zHL T = zHL S := by
  unfold zHL
  rw [h0, zhang_cg h0 h1]
theorem zFin.cg (h0 : T 0 = S 0) (h1 : T 1 = S 1) (h : zFin S M) : zFin T M := by
  unfold zFin at h ⊢
  rw [zhang_cg h0 h1, zHL_cg h0 h1, h0]
  exact h
theorem zwf.mk' (hW : zwf S) (h : ∀ k, k < 23 → T k = S k) (hv : ∀ c, c < S 0 → T (31 + c) ≤ 9) (ho : T 23 ≤ 9) (hs : T 25 < 2 ^ S 0) (hp : ∀ c, c < 5 → T (26 + c) < 2 ^ S 0 ∧ (S 2 ≤ c → T (26 + c) = 0)) (hd : ∀ c e, c < 5 → e < 5 → c ≠ e → T (26 + c) &&& T (26 + e) = 0) (hq : ∀ c, c < 5 → T (26 + c) &&& T 25 = 0) : zwf T := by
  obtain ⟨w1, w2, w3, w4, w5, w6, w7, w8, w9, w10⟩ := hW
  have h0 := h 0 (by decide)
  have h1 := h 1 (by decide)
  have h2 := h 2 (by decide)
  unfold zwf
  rw [h0, h1, h2]
  refine ⟨w1, w2, w3, fun c hc => ?_, ho, fun c hc => ?_, hs, hp, hd, hq⟩
  · rw [h (3 + c) (by omega)]
    exact ⟨(w4 c hc).1, (w4 c hc).2.1, hv c hc⟩
  · rw [h (13 + c) (by omega), h (18 + c) (by omega)]
    exact w6 c hc
theorem zwf.cg (hW : zwf S) (h : ∀ k, k < 41 → T k = S k) : zwf T := by
  have hn := hW.n
  refine hW.mk' (fun k hk => h k (by omega)) (fun c hc => ?_) ?_ ?_ (fun c hc => ?_) (fun c e hc he => ?_) (fun c hc => ?_)
  · rw [h (31 + c) (by omega)]; exact (hW.2.2.2.1 c hc).2.2
  · rw [h 23 (by omega)]; exact hW.2.2.2.2.1
  · rw [h 25 (by omega)]; exact hW.2.2.2.2.2.2.1
  · rw [h (26 + c) (by omega)]; exact hW.2.2.2.2.2.2.2.1 c hc
  · rw [h (26 + c) (by omega), h (26 + e) (by omega)]; exact hW.2.2.2.2.2.2.2.2.1 c e hc he
  · rw [h (26 + c) (by omega), h 25 (by omega)]; exact hW.2.2.2.2.2.2.2.2.2 c hc
theorem zon_cg (h : ∀ k, k < 41 → T k = S k) : zon T = zon S := by
  unfold zon zgone
  rw [h 0 (by omega), h 25 (by omega), h 26 (by omega), h 27 (by omega), h 28 (by omega), h 29 (by omega), h 30 (by omega)]
theorem zair_cg (hn : S 0 ≤ 10) (h : ∀ k, k < 23 → T k = S k) : zair T = zair S := by
  unfold zair
  rw [h 0 (by decide)]
  exact zors_congr (fun i hi => by rw [h (3 + i) (by omega)])
theorem zAct.lo {dd ww bb : Nat} (h : zAct dd ww bb S T) {k : Nat} (hk : k < 23) : T k = S k := by
  rcases h with ⟨-, -, -, -, -, h⟩ | ⟨-, -, -, -, -, h⟩ | ⟨-, -, -, -, h⟩ | ⟨-, -, -, h⟩ | ⟨-, -, h⟩
  · exact h k (by omega) (by omega)
  · exact h k (by omega)
  · exact h k (by omega)
  · exact h k (by omega)
  · exact h k (by omega)
theorem zAct.cg {P : Nat → Nat} {dd ww bb : Nat} (hW : zwf S) (h : zAct dd ww bb S T) (hP : ∀ k, k < 41 → P k = S k) : zAct dd ww bb P (fun k => if k < 41 then T k else P k) := by
  have hn := hW.n
  have hm := hW.m
  have p0 := hP 0 (by decide)
  have p2 := hP 2 (by decide)
  rcases h with ⟨h0, h1, h2, h3, h4, h5⟩ | ⟨h0, h1, h2, h3, h4, h5⟩ | ⟨h0, h1, h2, h3, h5⟩ | ⟨h0, h1, h2, h5⟩ | ⟨h0, h2, h5⟩
  · refine Or.inl ⟨h0, by omega, by rw [hP _ (by omega)]; exact h2, ?_, ?_, fun k k1 k2 => ?_⟩
    · dsimp only; rw [if_pos (by omega)]; exact h3
    · dsimp only; rw [if_pos (by omega), hP _ (by omega)]; exact h4
    · dsimp only
      by_cases e : k < 41
      · rw [if_pos e, hP k e]; exact h5 k k1 k2
      · rw [if_neg e]
  · refine Or.inr (Or.inl ⟨h0, by omega, by rw [hP _ (by omega)]; exact h2, h3, ?_, fun k k1 => ?_⟩)
    · dsimp only; rw [if_pos (by omega)]; exact h4
    · dsimp only
      by_cases e : k < 41
      · rw [if_pos e, hP k e]; exact h5 k k1
      · rw [if_neg e]
  · refine Or.inr (Or.inr (Or.inl ⟨h0, by omega, by rw [zon_cg hP]; exact h2, ?_, fun k k1 => ?_⟩))
    · dsimp only; rw [if_pos (by omega), hP _ (by omega)]; exact h3
    · dsimp only
      by_cases e : k < 41
      · rw [if_pos e, hP k e]; exact h5 k k1
      · rw [if_neg e]
  · refine Or.inr (Or.inr (Or.inr (Or.inl ⟨h0, by omega, by rw [hP _ (by omega)]; exact h2, fun k k1 => ?_⟩)))
    dsimp only
    by_cases e : k < 41
    · rw [if_pos e, hP k e]; exact h5 k k1
    · rw [if_neg e]
  · refine Or.inr (Or.inr (Or.inr (Or.inr ⟨h0, by rw [hP _ (by omega)]; exact h2, fun k k1 => ?_⟩)))
    dsimp only
    by_cases e : k < 41
    · rw [if_pos e, hP k e]; exact h5 k k1
    · rw [if_neg e]
theorem zSheet.mk' {b : Nat} {M' : ZM} (hn : S 0 ≤ 10) (hS : zSheet S b M) (h : ∀ k, k < 23 → T k = S k) (e0 : M'.1 b 0 = M.1 b 0) (e1 : M'.1 b 1 = M.1 b 1) (e2 : M'.1 b 2 = M.1 b 2) (e7 : M'.1 b 7 = M.1 b 7) (b3 : M'.1 b 3 = nI (T 23)) (b4 : M'.1 b 4 = nI (T 24)) (b5 : M'.1 b 5 = nI (zon T)) (b6 : M'.1 b 6 = nI (T 25)) (c1 : M'.1 (b + 1) = M.1 (b + 1)) (c2 : M'.1 (b + 2) = M.1 (b + 2)) (c4 : M'.1 (b + 4) = M.1 (b + 4)) (c5 : M'.1 (b + 5) = M.1 (b + 5)) (c3 : ∀ i, i < S 0 → M'.1 (b + 3) i = nI (T (31 + i))) (c6 : ∀ i, i < S 2 → i < 5 → M'.1 (b + 6) i = nI (T (26 + i))) (hm : S 2 ≤ 5) : zSheet T b M' := by
  obtain ⟨s0, s1, s2, s3, s4, s5, s6, s7, s8, s9⟩ := hS
  unfold zSheet
  rw [e0, e1, e2, e7, c1, c2, c4, c5, h 0 (by decide), h 1 (by decide), h 2 (by decide), zair_cg hn h]
  refine ⟨s0, s1, s2, b3, b4, b5, b6, s7, fun i hi => ⟨(s8 i hi).1, ?_, c3 i hi⟩, fun i hi => ⟨?_, ?_, c6 i hi (by omega)⟩⟩
  · rw [h (3 + i) (by omega)]; exact (s8 i hi).2.1
  · rw [h (13 + i) (by omega)]; exact (s9 i hi).1
  · rw [h (18 + i) (by omega)]; exact (s9 i hi).2.1
end ZX28
section ZX29
variable {d : Nat} {M : ZM} {S T : Nat → Nat}
theorem s_keeps (hd : 1 ≤ d) {a : Nat} (ha : a ≤ 24) (h14 : M.1 66 14 = nI a) : ∃ M', (zenv zbt d).2.2 167 [.ref 66] M = some M' ∧ zFr [66, 75] M M' ∧ (∀ k, k ≠ 14 → M'.1 66 k = M.1 66 k) ∧ M'.1 66 14 = nI (min (a + 1) 24) ∧ ∀ j k, j < min (a + 1) 24 → k < 18 → M'.1 75 (18 * j + k) = if j + (a + 1 - min (a + 1) 24) < a then M.1 75 (18 * (j + (a + 1 - min (a + 1) 24)) + k) else M.1 72 (23 + k) := by
  obtain ⟨d, rfl⟩ : ∃ e, d = e + 1 := ⟨d - 1, by omega⟩
  have key : ∀ (M1 : ZM) (n : Nat), n < 24 → M1.1 66 14 = nI n → ∀ i, i ≤ 18 → zL (zenv zbt d) tb_X8_keeps cu_X8_keeps 51 [some (.ref 66), some (.int (nI i))] [] (zcp M1 72 23 75 (18 * n) i) (none, zw (zcp M1 72 23 75 (18 * n) 18) 66 14 (nI (n + 1))) := by
    intro M1 n hn h1
    apply zup
    · apply zL_of; rw [e_X8_keeps_51, if_pos (by decide), zcp_nc (by decide), h1, nI_1]; rfl
    · intro i hi ih
      apply zL_of; rw [e_X8_keeps_51, if_neg (show ¬ ((18 : Int32) ≤ nI i) from nI_ge hi (by decide)), zcp_nc (by decide), h1, zlit 23, nI_add, zlit 18, pk_mul, nI_add, zck_t (zinN (by omega) (by decide)), zck_t (zinN (by omega) (by decide)), zcN (by omega), zcN (by omega), zcp_nc (by decide), zcp_s, nI_1]
      exact zPo_go ih
  by_cases h24 : a = 24
  · subst h24
    have key2 : ∀ i, i ≤ 414 → zL (zenv zbt d) tb_X8_keeps cu_X8_keeps 11 [some (.ref 66), some (.int (nI i))] [] (zcp M 75 18 75 0 i) (none, zw (zcp (zw (zcp M 75 18 75 0 414) 66 14 (nI 23)) 72 23 75 (18 * 23) 18) 66 14 (nI 24)) := by
      apply zup
      · apply zL_of; rw [e_X8_keeps_11, if_pos (by decide), zcp_nc (by decide), h14, show nI 24 - 1 = nI 23 from rfl]
        apply zPo_go
        have := key (zw (zcp M 75 18 75 0 414) 66 14 (nI 23)) 23 (by decide) (zw_eq _ _ _ _) 0 (by omega)
        rw [zcp_0] at this
        exact this
      · intro i hi ih
        apply zL_of; rw [e_X8_keeps_11, if_neg (show ¬ ((414 : Int32) ≤ nI i) from nI_ge hi (by decide)), show nI i + 18 = nI (i + 18) from nI_add i 18, zck_t (zinN (by omega) (by decide)), zck_t (zinN (by omega) (by decide)), zcN (by omega), zcN (by omega), zcp_out (by omega), nI_1]
        have := zcp_s (M := M) (a := 75) (sp := 18) (b := 75) (dp := 0) (k := i)
        rw [Nat.zero_add, Nat.add_comm 18 i] at this
        rw [this]
        exact zPo_go ih
    refine ⟨zw (zcp (zw (zcp M 75 18 75 0 414) 66 14 (nI 23)) 72 23 75 (18 * 23) 18) 66 14 (nI 24), ?_, (((zFr.rf.cp (by decide)).w (by decide)).cp (by decide)).w (by decide), fun k hk => ?_, zw_eq _ _ _ _, fun j k hj hk => ?_⟩
    · apply c_X8_keeps
      apply zL_of; rw [e_X8_keeps_0, h14, if_pos (by decide)]
      apply zPo_go
      have := key2 0 (by omega)
      rw [zcp_0] at this
      exact this
    · rw [zw_nk hk, zcp_nc (by decide), zw_nk hk, zcp_nc (by decide)]
    · rw [zw_nc (by decide)]
      by_cases e : j = 23
      · subst e
        rw [zcp_in (by omega) (by omega), zw_nc (by decide), zcp_nc (by decide), if_neg (by omega), show 23 + (18 * 23 + k - 18 * 23) = 23 + k by omega]
      · rw [zcp_out (by omega), zw_nc (by decide), zcp_in (by omega) (by omega), if_pos (by omega), show 18 + (18 * j + k - 0) = 18 * (j + (24 + 1 - min (24 + 1) 24)) + k by omega]
  · refine ⟨zw (zcp M 72 23 75 (18 * a) 18) 66 14 (nI (a + 1)), ?_, (zFr.rf.cp (by decide)).w (by decide), fun k hk => ?_, ?_, fun j k hj hk => ?_⟩
    · apply c_X8_keeps
      apply zL_of; rw [e_X8_keeps_0, h14, if_neg (show ¬ (nI a = (24 : Int32)) from fun q => h24 ((nI_eq (by omega) (by decide)).mp q))]
      apply zPo_go
      have := key M a (by omega) h14 0 (by omega)
      rw [zcp_0] at this
      exact this
    · rw [zw_nk hk, zcp_nc (by decide)]
    · rw [zw_eq, show min (a + 1) 24 = a + 1 by omega]
    · rw [zw_nc (by decide), show a + 1 - min (a + 1) 24 = 0 by omega, Nat.add_zero]
      by_cases e : j = a
      · subst e
        rw [zcp_in (by omega) (by omega), if_neg (by omega), show 23 + (18 * j + k - 18 * j) = 23 + k by omega]
      · rw [zcp_out (by omega), if_pos (by omega)]
theorem zact (hd : 1 ≤ d) (hI : zInv S M) {dd ww bb : Nat} (hA : zAct dd ww bb S T) (hT : zwf T) (hb : bb < 2 ^ 30) {Mx : ZM} (fx : zFr [20, 21, 22, 23, 24, 25, 26] M Mx) (hS : zSheet T 20 Mx) : ∃ M1, (zenv zbt d).2.2 0 [.ref 49, .int (nI dd), .int (nI ww), .int (nI bb)] Mx = some M1 ∧ zFr [49, 50, 51, 52] Mx M1 ∧ zSheet T 20 M1 ∧ zMod S M1 ∧ ∃ M1', (zenv zbt d).2.2 167 [.ref 66] M1 = some M1' ∧ zMod S M1' ∧ ∀ M2, zFr [72] M1' M2 → (∀ k, k < 41 → M2.1 72 k = nI (T k)) → zInv T M2 := by
  obtain ⟨d, rfl⟩ : ∃ e, d = e + 1 := ⟨d - 1, by omega⟩
  obtain ⟨a, f, P, ha, hf, c1, c2, c3, c4, c5⟩ := hI.2.2.2.2.2.2.2.1
  have h49 : Mx.1 49 = M.1 49 := (fx 49 (by decide)).1
  have er : zrem (nI f + 1) 24 = nI ((f + 1) % 24) := by
    rw [nI_1]
    exact pk_rem (d := 24) (by omega) (by decide) (by decide)
  have em : zmin (nI a + 1) 24 = nI (min (a + 1) 24) := by
    rw [nI_1]
    exact zminN (b := 24) (by omega) (by decide)
  obtain ⟨M1, hM1⟩ : ∃ M1, M1 = zw (zw (zw (zw (zw Mx 50 f (nI dd)) 51 f (nI ww)) 52 f (nI bb)) 49 3 (nI ((f + 1) % 24))) 49 4 (nI (min (a + 1) 24)) := ⟨_, rfl⟩
  have f1 : zFr [49, 50, 51, 52] Mx M1 := by
    rw [hM1]
    exact ((((zFr.rf.w (by decide)).w (by decide)).w (by decide)).w (by decide)).w (by decide)
  have f2 : zFr [20, 21, 22, 23, 24, 25, 26, 49, 50, 51, 52] M M1 := (fx.mono (by decide)).trans (f1.mono (by decide))
  have hm1 : zMod S M1 := hI.md.fr f2 (by decide) (by decide)
  obtain ⟨M1', k1, k2, k3, k4, k5⟩ := s_keeps (d := d + 1) (M := M1) (by omega) ha (by rw [(f2 66 (by decide)).1]; exact c2)
  refine ⟨M1, ?_, f1, hS.fr f1 (fun j hj => by simp; omega), hm1, M1', k1, hm1.fr k2 (by decide) (by decide), fun M2 g1 g2 => ?_⟩
  · apply c_X0_keep
    apply zL_of; rw [e2_X0_keep_0, h49, c3, zck_t (zinN hf (by decide)), zck_t (zinN hf (by decide)), zck_t (zinN hf (by decide)), zcN (by omega), c1, er, em, ← hM1]; rfl
  · have fa : zFr [20, 21, 22, 23, 24, 25, 26, 49, 50, 51, 52, 66, 72, 75] M M2 := ((f2.mono (by decide)).trans (k2.mono (by decide))).trans (g1.mono (by decide))
    have fs : zFr [49, 50, 51, 52, 66, 72, 75] Mx M2 := ((f1.mono (by decide)).trans (k2.mono (by decide))).trans (g1.mono (by decide))
    have h66 : ∀ k, k ≠ 14 → M2.1 66 k = M.1 66 k := fun k hk => by rw [(g1 66 (by decide)).1, k3 k hk, (f2 66 (by decide)).1]
    have t0 := hA.lo (k := 0) (by decide)
    have t1 := hA.lo (k := 1) (by decide)
    obtain ⟨i1, i2, i3, i4, i5, i6, i7, i8, i9, i10⟩ := hI
    refine ⟨hT, hS.fr fs (fun j hj => by simp; omega), ⟨g2, fun c hc => ?_⟩, (i4.fr fa (by decide) (by decide) (by decide)).cg t0 t1, fun r hr => zRow.fr hr (i5 r hr) fa (fun c h1 h2 => by simp; omega) (by decide) (by decide) (by decide), ?_, ?_, ?_, i9.fr fa (by decide) (by decide) (fun j hj => by simp; omega), i10.fr fa (by decide) (by decide) (fun j hj => by simp; omega)⟩
    · rw [(fa 74 (by decide)).1, t0, t1]
      exact i3.2 c (by omega)
    · unfold zTape at i6 ⊢
      rw [(fa 18 (by decide)).1, (fa 19 (by decide)).1, (fa 71 (by decide)).1, h66 6 (by decide)]
      exact i6
    · unfold zMisc at i7 ⊢
      rw [(fa 0 (by decide)).1, (fa 18 (by decide)).1, (fa 61 (by decide)).1, (fa 62 (by decide)).1, (fa 79 (by decide)).1, (fa 80 (by decide)).2, h66 4 (by decide), h66 9 (by decide), h66 19 (by decide)]
      exact i7
    · have hPa : zwf (P a) := i1.cg c4
      have e49 : M2.1 49 = M1.1 49 := by rw [(g1 49 (by decide)).1, (k2 49 (by decide)).1]
      have e50 : M2.1 50 = M1.1 50 := by rw [(g1 50 (by decide)).1, (k2 50 (by decide)).1]
      have e51 : M2.1 51 = M1.1 51 := by rw [(g1 51 (by decide)).1, (k2 51 (by decide)).1]
      have e52 : M2.1 52 = M1.1 52 := by rw [(g1 52 (by decide)).1, (k2 52 (by decide)).1]
      have x50 : Mx.1 50 = M.1 50 := (fx 50 (by decide)).1
      have x51 : Mx.1 51 = M.1 51 := (fx 51 (by decide)).1
      have x52 : Mx.1 52 = M.1 52 := (fx 52 (by decide)).1
      obtain ⟨sh, hsh⟩ : ∃ sh, sh = a + 1 - min (a + 1) 24 := ⟨_, rfl⟩
      have hs2 : min (a + 1) 24 + sh = a + 1 := by omega
      rw [← hsh] at k5
      refine ⟨min (a + 1) 24, (f + 1) % 24, fun j => if j + sh ≤ a then P (j + sh) else fun k => if k < 41 then T k else P a k, by omega, by omega, ?_, ?_, ?_, fun k hk => ?_, fun j hj => ?_⟩
      · rw [e49, hM1, zw_eq]
      · rw [(g1 66 (by decide)).1]; exact k4
      · rw [e49, hM1, zw_nk (by decide), zw_eq]
      · dsimp only
        rw [if_neg (by omega), if_pos hk]
      · have hidx : ((f + 1) % 24 + 24 - min (a + 1) 24 + j) % 24 = (f + 24 - a + (j + sh)) % 24 := by omega
        dsimp only
        rw [if_pos (show j + sh ≤ a by omega), hidx, e50, e51, e52, (g1 75 (by decide)).1]
        by_cases hja : j + sh < a
        · obtain ⟨p1, p2, dd', ww', bb', p3, p4, p5, p6, p7⟩ := c5 (j + sh) hja
          have hne : (f + 24 - a + (j + sh)) % 24 ≠ f := by omega
          refine ⟨p1, fun k hk => ?_, dd', ww', bb', p3, ?_, ?_, ?_, ?_⟩
          · rw [k5 j k hj hk, if_pos hja, (f2 75 (by decide)).1]; exact p2 k hk
          · rw [hM1]; simp (disch := first | decide | omega) only [zw_nc, zw_nk]; rw [x50]; exact p4
          · rw [hM1]; simp (disch := first | decide | omega) only [zw_nc, zw_nk]; rw [x51]; exact p5
          · rw [hM1]; simp (disch := first | decide | omega) only [zw_nc, zw_nk]; rw [x52]; exact p6
          · rw [if_pos (by omega), show j + 1 + sh = j + sh + 1 by omega]; exact p7
        · have hja2 : j + sh = a := by omega
          have hif : (f + 24 - a + (j + sh)) % 24 = f := by omega
          rw [hif, hja2]
          refine ⟨hPa, fun k hk => ?_, dd, ww, bb, hb, ?_, ?_, ?_, ?_⟩
          · rw [k5 j k hj hk, if_neg hja, hm1.1 _ (by omega), c4 _ (by omega)]
          · rw [hM1]; simp (disch := first | decide | omega) only [zw_nc, zw_nk, zw_eq]
          · rw [hM1]; simp (disch := first | decide | omega) only [zw_nc, zw_nk, zw_eq]
          · rw [hM1]; simp (disch := first | decide | omega) only [zw_nc, zw_nk, zw_eq]
          · rw [if_neg (by omega)]; exact hA.cg i1 c4
end ZX29

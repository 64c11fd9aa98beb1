/-! become, joins; image, restore -/
section ZX33
variable {d : Nat} {M : ZM} {S T : Nat → Nat}
theorem s_become (hd : 1 ≤ d) {b b1 : Nat} (hb : zbc b b1) (hW : zwf S) (hS : zSheet S b1 M) : ∃ M', (zenv zbt d).2.2 57 [.ref b, .ref b1] M = some M' ∧ zFr [b, b + 1, b + 2, b + 3, b + 4, b + 5, b + 6] M M' ∧ zSheet S b M' := by
  obtain ⟨d, rfl⟩ : ∃ e, d = e + 1 := ⟨d - 1, by omega⟩
  have hdis : b + 7 ≤ b1 ∨ b1 + 7 ≤ b := by unfold zbc at hb; omega
  have hn := hW.n
  have hm := hW.m
  obtain ⟨s0, s1, s2, s3, s4, s5, s6, s7, s8, s9⟩ := hS
  refine ⟨_, c_X5_become (zL_of (by rw [e_X5_become_0 _ _ _ _ hb]; exact rfl)), ?_, ?_⟩
  · refine (((((((((((((zFr.rf.w ?_).w ?_).w ?_).w ?_).w ?_).w ?_).w ?_).w ?_).cp ?_).cp ?_).cp ?_).cp ?_).cp ?_).cp ?_ <;> simp
  · simp (disch := omega) only [zw_nc]
    unfold zSheet
    refine ⟨?_, ?_, ?_, ?_, ?_, ?_, ?_, ?_, fun i hi => ⟨?_, ?_, ?_⟩, fun i hi => ⟨?_, ?_, ?_⟩⟩
    all_goals simp (disch := omega) only [zcp_nc, zcp_in, zw_nc, zw_eq, zw_nk, s0, s1, s2, s3, s4, s5, s6, s7, Nat.zero_add, Nat.sub_zero]
    · exact (s8 i hi).1
    · exact (s8 i hi).2.1
    · exact (s8 i hi).2.2
    · exact (s9 i hi).1
    · exact (s9 i hi).2.1
    · exact (s9 i hi).2.2
theorem zor0 (a b c e : Nat) : ((nI a ||| nI b) ||| nI c) ||| nI e = nI (((a ||| b) ||| c) ||| e) := by rw [zor, zor, zor]
theorem s_joins (hd : 1 ≤ d) {n w : Nat} (hn : n ≤ 10) (hw : n = 0 ∨ (w, n) ∈ zshp) (h0 : M.1 72 0 = nI n) (h1 : M.1 72 1 = nI w) : ∃ M', (zenv zbt d).2.2 164 [.ref 66] M = some M' ∧ zFr [74] M M' ∧ ∀ c, c < n → M'.1 74 c = nI (znx w n c) := by
  obtain ⟨d, rfl⟩ : ∃ e, d = e + 1 := ⟨d - 1, by omega⟩
  have hw0 : 0 < n → 0 < w ∧ w ≤ 10 := fun q => by
    rcases hw with h | h
    · omega
    · have : ∀ q ∈ zshp, 0 < q.1 ∧ q.1 ≤ 10 := by decide
      exact this _ h
  have key : ∀ c, c ≤ n → ∀ M1 : ZM, zFr [74] M M1 → (∀ e, e < c → M1.1 74 e = nI (znx w n e)) → ∃ M', zL (zenv zbt d) tb_X8_joins cu_X8_joins 16 [some (.ref 66), some (.int (nI n)), some (.int (nI w)), some (.int (nI c)), none] [] M1 (none, M') ∧ zFr [74] M M' ∧ ∀ c, c < n → M'.1 74 c = nI (znx w n c) := by
    apply zup
    · intro M1 f1 g1
      refine ⟨M1, ?_, f1, g1⟩
      apply zL_of; rw [e_X8_joins_16, if_pos (nI_le (Nat.le_refl _) (by omega))]; rfl
    · intro c hc ih M1 f1 g1
      obtain ⟨w0, w10⟩ := hw0 (by omega)
      obtain ⟨M', hL, r⟩ := ih (zw M1 74 c (nI (znx w n c))) (f1.w (by decide)) (fun e he => by
        by_cases q : e = c
        · rw [q, zw_eq]
        · rw [zw_nk q]; exact g1 e (by omega))
      refine ⟨M', ?_, r⟩
      have hmod : c % w < w := Nat.mod_lt _ w0
      have hml : c % w ≤ c := Nat.mod_le _ _
      have er : zrem (nI c) (nI w) = nI (c % w) := pk_rem (by omega) w0 (by omega)
      have ew : nI w - 1 = nI (w - 1) := pk_sub (b := 1) (by omega)
      have ez : (!(decide (nI w = 0))) = true := by
        rw [decide_eq_false (nI_ne0 w0 (by omega))]; rfl
      have z2 : zshl 1 (nI c + 1) = nI (2 ^ (c + 1)) := by rw [nI_1]; exact zshl1 (by omega)
      have z4 : zshl 1 (nI c + nI w) = nI (2 ^ (c + w)) := by rw [nI_add]; exact zshl1 (by omega)
      have zc := zinN (show c < 10 by omega) (show 10 < 2 ^ 31 by decide)
      have cc : (nI c).toNatClampNeg = c := zcN (by omega)
      apply zL_of; rw [e_X8_joins_16, if_neg (nI_ge hc (by omega)), er, ew, zck_t ez, zck_t ez, zck_t ez, cc]
      simp only [zck_t zc]
      unfold znx at hL
      by_cases c1 : 0 < c % w
      · have z1 : zshl 1 (nI c - 1) = nI (2 ^ (c - 1)) := by rw [show nI c - 1 = nI (c - 1) from pk_sub (b := 1) (by omega)]; exact zshl1 (by omega)
        rw [if_pos c1] at hL
        rw [if_neg (nI_nle c1 (by omega)), z1, z2, z4]
        by_cases c2 : c % w < w - 1
        · rw [if_pos c2] at hL
          rw [if_neg (nI_ge c2 (by omega))]
          by_cases c3 : w ≤ c
          · have z3 : zshl 1 (nI c - nI w) = nI (2 ^ (c - w)) := by rw [pk_sub c3]; exact zshl1 (by omega)
            rw [if_pos c3] at hL
            rw [if_neg (nI_nlt c3 (by omega)), z3]
            by_cases c4 : c + w < n
            · rw [if_pos c4] at hL
              rw [nI_add, if_neg (nI_ge c4 (by omega)), zor0, nI_1]
              exact zPo_go hL
            · rw [if_neg c4] at hL
              rw [nI_add, if_pos (nI_le (by omega) (by omega)), show (0 : Int32) = nI 0 from rfl, zor0, nI_1]
              exact zPo_go hL
          · rw [if_neg c3] at hL
            rw [if_pos (nI_lt (by omega) (by omega))]
            by_cases c4 : c + w < n
            · rw [if_pos c4] at hL
              rw [nI_add, if_neg (nI_ge c4 (by omega)), show (0 : Int32) = nI 0 from rfl, zor0, nI_1]
              exact zPo_go hL
            · rw [if_neg c4] at hL
              rw [nI_add, if_pos (nI_le (by omega) (by omega)), show (0 : Int32) = nI 0 from rfl, zor0, nI_1]
              exact zPo_go hL
        · rw [if_neg c2] at hL
          rw [if_pos (nI_le (by omega) (by omega))]
          by_cases c3 : w ≤ c
          · have z3 : zshl 1 (nI c - nI w) = nI (2 ^ (c - w)) := by rw [pk_sub c3]; exact zshl1 (by omega)
            rw [if_pos c3] at hL
            rw [if_neg (nI_nlt c3 (by omega)), z3]
            by_cases c4 : c + w < n
            · rw [if_pos c4] at hL
              rw [nI_add, if_neg (nI_ge c4 (by omega)), show (0 : Int32) = nI 0 from rfl, zor0, nI_1]
              exact zPo_go hL
            · rw [if_neg c4] at hL
              rw [nI_add, if_pos (nI_le (by omega) (by omega)), show (0 : Int32) = nI 0 from rfl, zor0, nI_1]
              exact zPo_go hL
          · rw [if_neg c3] at hL
            rw [if_pos (nI_lt (by omega) (by omega))]
            by_cases c4 : c + w < n
            · rw [if_pos c4] at hL
              rw [nI_add, if_neg (nI_ge c4 (by omega)), show (0 : Int32) = nI 0 from rfl, zor0, nI_1]
              exact zPo_go hL
            · rw [if_neg c4] at hL
              rw [nI_add, if_pos (nI_le (by omega) (by omega)), show (0 : Int32) = nI 0 from rfl, zor0, nI_1]
              exact zPo_go hL
      · rw [if_neg c1] at hL
        rw [if_pos (show nI (c % w) ≤ (0 : Int32) from nI_le (b := 0) (by omega) (by decide)), z2, z4]
        by_cases c2 : c % w < w - 1
        · rw [if_pos c2] at hL
          rw [if_neg (nI_ge c2 (by omega))]
          by_cases c3 : w ≤ c
          · have z3 : zshl 1 (nI c - nI w) = nI (2 ^ (c - w)) := by rw [pk_sub c3]; exact zshl1 (by omega)
            rw [if_pos c3] at hL
            rw [if_neg (nI_nlt c3 (by omega)), z3]
            by_cases c4 : c + w < n
            · rw [if_pos c4] at hL
              rw [nI_add, if_neg (nI_ge c4 (by omega)), show (0 : Int32) = nI 0 from rfl, zor0, nI_1]
              exact zPo_go hL
            · rw [if_neg c4] at hL
              rw [nI_add, if_pos (nI_le (by omega) (by omega)), show (0 : Int32) = nI 0 from rfl, zor0, nI_1]
              exact zPo_go hL
          · rw [if_neg c3] at hL
            rw [if_pos (nI_lt (by omega) (by omega))]
            by_cases c4 : c + w < n
            · rw [if_pos c4] at hL
              rw [nI_add, if_neg (nI_ge c4 (by omega)), show (0 : Int32) = nI 0 from rfl, zor0, nI_1]
              exact zPo_go hL
            · rw [if_neg c4] at hL
              rw [nI_add, if_pos (nI_le (by omega) (by omega)), show (0 : Int32) = nI 0 from rfl, zor0, nI_1]
              exact zPo_go hL
        · rw [if_neg c2] at hL
          rw [if_pos (nI_le (by omega) (by omega))]
          by_cases c3 : w ≤ c
          · have z3 : zshl 1 (nI c - nI w) = nI (2 ^ (c - w)) := by rw [pk_sub c3]; exact zshl1 (by omega)
            rw [if_pos c3] at hL
            rw [if_neg (nI_nlt c3 (by omega)), z3]
            by_cases c4 : c + w < n
            · rw [if_pos c4] at hL
              rw [nI_add, if_neg (nI_ge c4 (by omega)), show (0 : Int32) = nI 0 from rfl, zor0, nI_1]
              exact zPo_go hL
            · rw [if_neg c4] at hL
              rw [nI_add, if_pos (nI_le (by omega) (by omega)), show (0 : Int32) = nI 0 from rfl, zor0, nI_1]
              exact zPo_go hL
          · rw [if_neg c3] at hL
            rw [if_pos (nI_lt (by omega) (by omega))]
            by_cases c4 : c + w < n
            · rw [if_pos c4] at hL
              rw [nI_add, if_neg (nI_ge c4 (by omega)), show (0 : Int32) = nI 0 from rfl, zor0, nI_1]
              exact zPo_go hL
            · rw [if_neg c4] at hL
              rw [nI_add, if_pos (nI_le (by omega) (by omega)), show (0 : Int32) = nI 0 from rfl, zor0, nI_1]
              exact zPo_go hL
  obtain ⟨M', hL, r⟩ := key 0 (by omega) M zFr.rf (fun e he => by omega)
  refine ⟨M', ?_, r⟩
  apply c_X8_joins
  apply zL_of; rw [e_X8_joins_0, h0, h1]
  exact zPo_go hL
theorem s_place (hd : 3 ≤ d) {b : Nat} (hb : zsx b) (hW : zwf T) (hS : zSheet T b M) : ∃ M', (zenv zbt d).2.2 131 [.ref 0, .ref b] M = some M' ∧ zFr [20, 21, 22, 23, 24, 25, 26, 49, 53, 54, 55] M M' ∧ zSheet T 20 M' ∧ zFin T M' ∧ (∀ k, k ≠ 4 → M'.1 49 k = M.1 49 k) ∧ M'.1 49 4 = 0 := by
  obtain ⟨d, rfl⟩ : ∃ e, d = e + 1 := ⟨d - 1, by omega⟩
  obtain ⟨M1, e1, f1, s1⟩ := s_become (d := d) (b := 20) (b1 := b) (by omega) (by unfold zsx at hb; unfold zbc; omega) hW hS
  obtain ⟨M2, e2, f2, s2⟩ := s_learn (d := d) (b := 20) (by omega) (Or.inl rfl) hW s1
  refine ⟨zw M2 49 4 0, ?_, ((f1.mono (by decide)).trans (f2.mono (by decide))).w (by decide), (s1.fr f2 (fun j hj => by simp; omega)).fr (zFr.w (cs := [49]) zFr.rf (by decide)) (fun j hj => by simp; omega), s2.fr (zFr.w (cs := [49]) zFr.rf (by decide)) (by decide) (by decide) (by decide), fun k hk => ?_, zw_eq _ _ _ _⟩
  · apply c_X7_putInPlace
    apply zL_of; rw [e_X7_putInPlace_0 _ _ _ hb, e1, Option.bind_some, e2, Option.bind_some]; rfl
  · rw [zw_nk hk, (f2 49 (by decide)).1, (f1 49 (by decide)).1]
/-- a new sheet in place -/
theorem zInv.new {M2 : ZM} (hI : zInv S M) (hW : zwf T) (fa : zFr [18, 19, 20, 21, 22, 23, 24, 25, 26, 27, 28, 29, 30, 31, 32, 33, 49, 53, 54, 55, 66, 71, 72, 73, 74] M M2) (hS : zSheet T 20 M2) (hM : zMod T M2) (hF : zFin T M2) (hT : zTape M2) (hf : M2.1 18 6 = M2.1 66 9) (h4 : M2.1 66 4 = M.1 66 4) (h19 : M2.1 66 19 = M.1 66 19) (a3 : M2.1 49 3 = M.1 49 3) (a4 : M2.1 49 4 = 0) (a14 : M2.1 66 14 = 0) : zInv T M2 := by
  obtain ⟨i1, i2, i3, i4, i5, i6, i7, i8, i9, i10⟩ := hI
  refine ⟨hW, hS, hM, hF, fun r hr => zRow.fr hr (i5 r hr) fa (fun c h1 h2 => by simp; omega) (by decide) (by decide) (by decide), hT, ?_, ?_, i9.fr fa (by decide) (by decide) (fun j hj => by simp; omega), i10.fr fa (by decide) (by decide) (fun j hj => by simp; omega)⟩
  · unfold zMisc at i7 ⊢
    rw [(fa 0 (by decide)).1, (fa 61 (by decide)).1, (fa 62 (by decide)).1, (fa 79 (by decide)).1, (fa 80 (by decide)).2, h4, h19]
    exact ⟨i7.1, hf, i7.2.2⟩
  · obtain ⟨a, f, P, ha, hf, c1, c2, c3, c4, c5⟩ := i8
    exact ⟨0, f, fun _ => T, by omega, hf, a4, a14, by rw [a3]; exact c3, fun _ _ => rfl, fun j hj => by omega⟩
theorem zel34 : ∀ k, k < 2 → zel 34 k = 35 + 7 * k ∧ zis (35 + 7 * k) 5 = true ∧ zfi (35 + 7 * k) 5 1 = true := by decide
theorem zimg2 {P : Nat → Prop} (h : ∀ k, k < 2 → P k) : P 0 ∧ P 1 := ⟨h 0 (by decide), h 1 (by decide)⟩
theorem a_image (hI : zInv S M) (x : Int32) : zAl 112 220 [.int x] M := by
  intro d hd
  obtain ⟨d, rfl⟩ : ∃ e, d = e + 1 := ⟨d - 1, by omega⟩
  have hn := hI.wf.n
  cases hz : zin x 2
  · refine ⟨-1000001, M, M, S, ?_, ?_, hI⟩
    · apply c_X7_image
      apply zL_of; rw [e_X7_image_0, s_isEitherC (by omega), Option.bind_some]
      dsimp only
      rw [hz, zbi_f (by decide), if_pos rfl]; rfl
    · apply c_X8_image
      apply zL_of; rw [e_X8_image_0, s_in (by omega), Option.bind_some, zbi_eq zgm2]
      dsimp only
      rw [hz, zbi_f (by decide), if_pos rfl]; rfl
  by_cases h0 : S 0 = 0
  · refine ⟨-1000002, M, M, S, ?_, ?_, hI⟩
    · apply c_X7_image
      apply zL_of; rw [e_X7_image_0, s_isEitherC (by omega), Option.bind_some]
      dsimp only
      rw [zbi_t hz, if_neg zn10, s_isThereC (by omega) hI, Option.bind_some]
      dsimp only
      rw [zbi_f (fun q => q h0), if_pos rfl]; rfl
    · apply c_X8_image
      apply zL_of; rw [e_X8_image_0, s_in (by omega), Option.bind_some, zbi_eq zgm2]
      dsimp only
      rw [zbi_t hz, if_neg zn10, hI.md.1 0 (by decide), if_pos (by rw [h0]; rfl)]; rfl
  obtain ⟨k, hk, rfl⟩ := (zin_iff (by decide)).mp hz
  obtain ⟨z1, z2, z3⟩ := zel34 k hk
  obtain ⟨M1, e1, f1, s1⟩ := s_become (d := d) (b := 35 + 7 * k) (b1 := 20) (by omega) (by unfold zbc; omega) hI.wf hI.sh
  have m72 : M1.1 72 = M.1 72 := (f1 72 (by simp; omega)).1
  have key : ∀ i, i ≤ 41 → zL (zenv zbt d) tb_X8_image cu_X8_image 26 [some (.ref 66), some (.int (nI k)), some (.int (nI i))] [] (zcp M1 72 0 76 (41 * k) i) (some (.int 1), zw (zcp M1 72 0 76 (41 * k) 41) 77 k 1) := by
    apply zup
    · apply zL_of; rw [e_X8_image_26, if_pos (by decide), zck_t (by rw [hz]; rfl), zcN (by omega)]; rfl
    · intro i hi ih
      have := zcp_s (M := M1) (a := 72) (sp := 0) (b := 76) (dp := 41 * k) (k := i)
      rw [Nat.zero_add] at this
      apply zL_of; rw [e_X8_image_26, if_neg (show ¬ ((41 : Int32) ≤ nI i) from nI_ge hi (by decide)), zlit 41, pk_mul, nI_add, zck_t (zinN (by omega) (by decide)), zck_t (zinN (by omega) (by decide)), zcN (by omega), zcN (by omega), zcp_nc (by decide), this, nI_1]
      exact zPo_go ih
  refine ⟨1, M1, zw (zcp M1 72 0 76 (41 * k) 41) 77 k 1, S, ?_, ?_, ?_⟩
  · apply c_X7_image
    apply zL_of; rw [e_X7_image_0, s_isEitherC (by omega), Option.bind_some]
    dsimp only
    rw [zbi_t hz, if_neg zn10, s_isThereC (by omega) hI, Option.bind_some]
    dsimp only
    rw [zbi_t h0, if_neg zn10, zck_t hz, zcN (by omega), z1, zck_t (by rw [z2]; rfl), e1, Option.bind_some]; rfl
  · apply c_X8_image
    apply zL_of; rw [e_X8_image_0, s_in (by omega), Option.bind_some, zbi_eq zgm2]
    dsimp only
    rw [zbi_t hz, if_neg zn10, m72, hI.md.1 0 (by decide), if_neg (nI_ne0 (by omega) (by omega))]
    apply zPo_go
    have := key 0 (by omega)
    rw [zcp_0] at this
    exact this
  · obtain ⟨M2, hM2⟩ : ∃ M2, M2 = zw (zcp M1 72 0 76 (41 * k) 41) 77 k 1 := ⟨_, rfl⟩
    rw [← hM2]
    have f2 : zFr [76, 77] M1 M2 := by rw [hM2]; exact (zFr.rf.cp (by decide)).w (by decide)
    have fa : zFr [35, 36, 37, 38, 39, 40, 41, 42, 43, 44, 45, 46, 47, 48, 76, 77] M M2 := (f1.mono (fun c hc => by simp at hc ⊢; omega)).trans (f2.mono (by decide))
    have hns : ∀ c, (c < 35 ∨ 49 ≤ c) → c ≠ 76 → c ≠ 77 → c ∉ [35, 36, 37, 38, 39, 40, 41, 42, 43, 44, 45, 46, 47, 48, 76, 77] := fun c h1 h2 h3 => by simp; omega
    have hk' : ∀ k', k' < 2 → zImg M2 k' := by
      intro k' hk'
      by_cases e : k' = k
      · subst e
        refine Or.inr ⟨by rw [hM2, zw_eq], S, hI.wf, by omega, s1.fr f2 (fun j hj => by simp; omega), fun j hj => ?_⟩
        rw [hM2, zw_nc (by decide), zcp_in (by omega) (by omega), m72, show 0 + (41 * k' + j - 41 * k') = j by omega]
        exact hI.md.1 j hj
      · have h77 : M2.1 77 k' = M.1 77 k' := by rw [hM2, zw_nk e, zcp_nc (by decide), (f1 77 (by simp; omega)).1]
        have h76 : ∀ j, j < 41 → M2.1 76 (41 * k' + j) = M.1 76 (41 * k' + j) := fun j hj => by rw [hM2, zw_nc (by decide), zcp_out (by omega), (f1 76 (by simp; omega)).1]
        have hold : zImg M k' := by
          have : k' = 0 ∨ k' = 1 := by omega
          rcases this with rfl | rfl
          · exact hI.2.2.2.2.2.2.2.2.1
          · exact hI.2.2.2.2.2.2.2.2.2
        have hc : ∀ j, j < 7 → M2.1 (35 + 7 * k' + j) = M.1 (35 + 7 * k' + j) := fun j hj => by rw [(f2 _ (by simp; omega)).1, (f1 _ (by simp; omega)).1]
        rcases hold with ⟨a1, a2⟩ | ⟨a1, T, t1, t2, t3, t4⟩
        · exact Or.inl ⟨by rw [h77]; exact a1, by rw [show M2.1 (35 + 7 * k') = M.1 (35 + 7 * k') from hc 0 (by decide)]; exact a2⟩
        · refine Or.inr ⟨by rw [h77]; exact a1, T, t1, t2, ?_, fun j hj => by rw [h76 j hj]; exact t4 j hj⟩
          have g : zFr [35 + 7 * k, 35 + 7 * k + 1, 35 + 7 * k + 2, 35 + 7 * k + 3, 35 + 7 * k + 4, 35 + 7 * k + 5, 35 + 7 * k + 6, 76, 77] M M2 := (f1.mono (fun c hc => by simp at hc ⊢; omega)).trans (f2.mono (by simp))
          exact t3.fr g (fun j hj => by simp; omega)
    obtain ⟨i1, i2, i3, i4, i5, i6, i7, i8, i9, i10⟩ := hI
    exact ⟨i1, i2.fr fa (fun j hj => hns _ (by omega) (by omega) (by omega)), i3.fr fa (by decide) (by decide), i4.fr fa (by decide) (by decide) (by decide), fun r hr => zRow.fr hr (i5 r hr) fa (fun c h1 h2 => hns _ (by omega) (by omega) (by omega)) (by decide) (by decide) (by decide), i6.fr fa (by decide) (by decide) (by decide) (by decide), i7.fr fa (by decide) (by decide) (by decide) (by decide) (by decide) (by decide) (by decide), i8.fr fa (by decide) (by decide) (by decide) (by decide) (by decide) (by decide), zimg2 hk'⟩
theorem a_restore (hI : zInv S M) (x : Int32) : zAl 113 221 [.int x] M := by
  intro d hd
  obtain ⟨d, rfl⟩ : ∃ e, d = e + 1 := ⟨d - 1, by omega⟩
  cases hz : zin x 2
  · refine ⟨-1000001, M, M, S, ?_, ?_, hI⟩
    · apply c_X7_restore
      apply zL_of; rw [e_X7_restore_0, s_isEitherC (by omega), Option.bind_some]
      dsimp only
      rw [hz, zbi_f (by decide), if_pos rfl]; rfl
    · apply c_X8_restore
      apply zL_of; rw [e_X8_restore_0, s_in (by omega), Option.bind_some, zbi_eq zgm2]
      dsimp only
      rw [hz, zbi_f (by decide), if_pos rfl]; rfl
  obtain ⟨k, hk, rfl⟩ := (zin_iff (by decide)).mp hz
  obtain ⟨z1, z2, z3⟩ := zel34 k hk
  have hold : zImg M k := by
    have : k = 0 ∨ k = 1 := by omega
    rcases this with rfl | rfl
    · exact hI.2.2.2.2.2.2.2.2.1
    · exact hI.2.2.2.2.2.2.2.2.2
  rcases hold with ⟨a1, a2⟩ | ⟨a1, T, t1, t2, t3, t4⟩
  · refine ⟨-1000002, M, M, S, ?_, ?_, hI⟩
    · apply c_X7_restore
      apply zL_of; rw [e_X7_restore_0, s_isEitherC (by omega), Option.bind_some]
      dsimp only
      rw [zbi_t hz, if_neg zn10, zck_t hz, zcN (by omega), z1, zck_t z3, a2, if_pos rfl]; rfl
    · apply c_X8_restore
      apply zL_of; rw [e_X8_restore_0, s_in (by omega), Option.bind_some, zbi_eq zgm2]
      dsimp only
      rw [zbi_t hz, if_neg zn10, zck_t hz, zcN (by omega), a1, if_pos rfl]; rfl
  have hn := t1.n
  obtain ⟨M1, e1, f1, s1, s2, s3, s4⟩ := s_place (d := d) (b := 35 + 7 * k) (by omega) (by unfold zsx; omega) t1 t3
  have m76 : M1.1 76 = M.1 76 := (f1 76 (by decide)).1
  obtain ⟨M2, hM2⟩ : ∃ M2, M2 = zcp M1 76 (41 * k) 72 0 41 := ⟨_, rfl⟩
  have h72 : ∀ j, j < 41 → M2.1 72 j = nI (T j) := fun j hj => by
    rw [hM2, zcp_in (by omega) (by omega), m76, show 41 * k + (j - 0) = 41 * k + j by omega]
    exact t4 j hj
  have f2 : zFr [72] M1 M2 := by rw [hM2]; exact zFr.rf.cp (by decide)
  obtain ⟨M3, e3, f3, j3⟩ := s_joins (d := d) (M := M2) (by omega) hn t1.2.2.1 (h72 0 (by decide)) (h72 1 (by decide))
  have key : ∀ i, i ≤ 41 → zL (zenv zbt d) tb_X8_restore cu_X8_restore 26 [some (.ref 66), some (.int (nI k)), some (.int (nI i))] [] (zcp M1 76 (41 * k) 72 0 i) (some (.int 1), zw M3 66 14 0) := by
    apply zup
    · apply zL_of; rw [e_X8_restore_26, if_pos (by decide), ← hM2, e3, Option.bind_some]; rfl
    · intro i hi ih
      have := zcp_s (M := M1) (a := 76) (sp := 41 * k) (b := 72) (dp := 0) (k := i)
      rw [Nat.zero_add] at this
      apply zL_of; rw [e_X8_restore_26, if_neg (show ¬ ((41 : Int32) ≤ nI i) from nI_ge hi (by decide)), zlit 41, pk_mul, nI_add, zck_t (zinN (by omega) (by decide)), zck_t (zinN (by omega) (by decide)), zcN (by omega), zcN (by omega), zcp_nc (by decide), this, nI_1]
      exact zPo_go ih
  refine ⟨1, M1, zw M3 66 14 0, T, ?_, ?_, ?_⟩
  · apply c_X7_restore
    apply zL_of; rw [e_X7_restore_0, s_isEitherC (by omega), Option.bind_some]
    dsimp only
    rw [zbi_t hz, if_neg zn10, zck_t hz, zcN (by omega), z1, zck_t z3, t3.2.1, if_neg (nI_ne0 t2 (by omega)), zck_t hz, e1, Option.bind_some]; rfl
  · apply c_X8_restore
    apply zL_of; rw [e_X8_restore_0, s_in (by omega), Option.bind_some, zbi_eq zgm2]
    dsimp only
    rw [zbi_t hz, if_neg zn10, zck_t hz, zcN (by omega), (f1 77 (by decide)).1, a1, if_neg zn10]
    apply zPo_go
    have := key 0 (by omega)
    rw [zcp_0] at this
    exact this
  · have f4 : zFr [66] M3 (zw M3 66 14 0) := zFr.rf.w (by decide)
    have fm : zFr [66, 72, 74] M1 (zw M3 66 14 0) := ((f2.mono (by decide)).trans (f3.mono (by decide))).trans (f4.mono (by decide))
    have h66 : ∀ j, j ≠ 14 → (zw M3 66 14 0).1 66 j = M.1 66 j := fun j hj => by rw [zw_nk hj, (f3 66 (by decide)).1, (f2 66 (by decide)).1, (f1 66 (by decide)).1]
    refine hI.new t1 ((f1.mono (by decide)).trans (fm.mono (by decide))) (s1.fr fm (fun j hj => by simp; omega)) ⟨fun j hj => ?_, fun c hc => ?_⟩ (s2.fr fm (by decide) (by decide) (by decide)) ?_ ?_ (h66 4 (by decide)) (h66 19 (by decide)) ?_ ?_ (zw_eq _ _ _ _)
    · rw [zw_nc (by decide), (f3 72 (by decide)).1]; exact h72 j hj
    · rw [zw_nc (by decide)]; exact j3 c hc
    · have i6 := hI.2.2.2.2.2.1
      unfold zTape at i6 ⊢
      rw [(fm 18 (by decide)).1, (fm 19 (by decide)).1, (fm 71 (by decide)).1, h66 6 (by decide), (f1 18 (by decide)).1, (f1 19 (by decide)).1, (f1 71 (by decide)).1]
      exact i6
    · rw [(fm 18 (by decide)).1, (f1 18 (by decide)).1, h66 9 (by decide)]; exact hI.mi.2.1
    · rw [(fm 49 (by decide)).1]; exact s3 3 (by decide)
    · rw [(fm 49 (by decide)).1]; exact s4
end ZX33

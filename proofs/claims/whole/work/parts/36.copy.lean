/-! copy -/
theorem zcp_0 (M : ZM) (a sp b dp : Nat) : zcp M a sp b dp 0 = M := by
  apply Prod.ext
  · funext c' j
    rw [zcp_at, if_neg (by omega)]
  · rfl
theorem zcp_s {M : ZM} {a sp b dp k : Nat} : zw (zcp M a sp b dp k) b (dp + k) (M.1 a (sp + k)) = zcp M a sp b dp (k + 1) := by
  apply Prod.ext
  · funext c' j
    rw [zw_at, zcp_at, zcp_at]
    by_cases h : c' = b
    · subst h
      by_cases e : j = dp + k
      · subst e
        rw [if_pos ⟨rfl, rfl⟩, if_pos ⟨rfl, by omega, by omega⟩, show dp + k - dp = k by omega]
      · rw [if_neg (fun q => e q.2)]
        by_cases h2 : dp ≤ j ∧ j < dp + k
        · rw [if_pos ⟨rfl, h2⟩, if_pos ⟨rfl, by omega, by omega⟩]
        · rw [if_neg (fun q => h2 q.2), if_neg (by omega)]
    · rw [if_neg (fun q => h q.1), if_neg (fun q => h q.1), if_neg (fun q => h q.1)]
  · rfl
section ZX24
variable {d : Nat} {M : ZM} {S : Nat → Nat}
theorem zrch_of {n : Nat} {i k : Int32} (hn : n ≤ 40) (h : zrch n i k = true) : ∃ i' k' : Nat, i = nI i' ∧ k = nI k' ∧ i' + k' ≤ n := by
  simp only [zrch, Bool.and_eq_true, decide_eq_true_eq] at h
  obtain ⟨⟨h1, h2⟩, h3⟩ := h
  obtain ⟨i', hi, rfl⟩ := nI_of (x := i) (fun q => by have := zlt0.mp q; omega)
  obtain ⟨k', hk, rfl⟩ := nI_of (x := k) (fun q => by have := zlt0.mp q; omega)
  rw [nI_toInt hi, nI_toInt hk] at h3
  exact ⟨i', k', rfl, rfl, by omega⟩
theorem a_copy (hI : zInv S M) (x i y j k : Int32) : zAl 82 151 [.int x, .int i, .int y, .int j, .int k] M := by
  intro d hd
  obtain ⟨d, rfl⟩ : ∃ e, d = e + 1 := ⟨d - 1, by omega⟩
  cases hz : zin x 8
  · refine ⟨-1000001, M, M, S, ?_, ?_, hI⟩
    · apply c_X7_copy
      apply zL_of; rw [e_X7_copy_0, s_isRowC (by omega), Option.bind_some]
      dsimp only
      rw [hz, zbi_f (by decide), if_pos rfl]; rfl
    · apply c_X8_copy
      apply zL_of; rw [e_X8_copy_0, s_isRowM (by omega), Option.bind_some]
      dsimp only
      rw [hz, zbi_f (by decide), if_pos rfl]; rfl
  cases hz2 : zin y 8
  · refine ⟨-1000001, M, M, S, ?_, ?_, hI⟩
    · apply c_X7_copy
      apply zL_of; rw [e_X7_copy_0, s_isRowC (by omega), Option.bind_some]
      dsimp only
      rw [zbi_t hz, if_neg zn10, s_isRowC (by omega), Option.bind_some]
      dsimp only
      rw [hz2, zbi_f (by decide), if_pos rfl]; rfl
    · apply c_X8_copy
      apply zL_of; rw [e_X8_copy_0, s_isRowM (by omega), Option.bind_some]
      dsimp only
      rw [zbi_t hz, if_neg zn10, s_isRowM (by omega), Option.bind_some]
      dsimp only
      rw [hz2, zbi_f (by decide), if_pos rfl]; rfl
  obtain ⟨r, hr, rfl⟩ := (zin_iff (by decide)).mp hz
  obtain ⟨t, ht, rfl⟩ := (zin_iff (by decide)).mp hz2
  obtain ⟨z1, z2, z3, z4, z5, z6⟩ := zfi4 r hr
  obtain ⟨y1, y2, y3, y4, y5, y6⟩ := zfi4 t ht
  have er := zel1 r hr
  have et := zel1 t ht
  have cr : (nI r).toNatClampNeg = r := zcN (by omega)
  have ct : (nI t).toNatClampNeg = t := zcN (by omega)
  have fd : ∀ v : Int32, zInv S (zw (zw M 0 9 v) 66 4 v) := fun v => hI.st v
  rcases hI.rw r hr with ⟨q1, q2⟩ | ⟨q1, n, l, q2, q3, q4, q5, q6, q7, q8⟩
  · refine ⟨-1000010 - 1, zw M 0 9 1, zw (zw M 0 9 1) 66 4 1, S, ?_, ?_, fd 1⟩
    · apply c_X7_copy
      apply zL_of; rw [e_X7_copy_0, s_isRowC (by omega), Option.bind_some]
      dsimp only
      rw [zbi_t hz, if_neg zn10, s_isRowC (by omega), Option.bind_some]
      dsimp only
      rw [zbi_t hz2, if_neg zn10, zck_t hz, zck_t hz2, cr, er, zck_t z1, q1, if_pos rfl, s_found (by omega), Option.bind_some]; rfl
    · apply c_X8_copy
      apply zL_of; rw [e_X8_copy_0, s_isRowM (by omega), Option.bind_some]
      dsimp only
      rw [zbi_t hz, if_neg zn10, s_isRowM (by omega), Option.bind_some]
      dsimp only
      rw [zbi_t hz2, if_neg zn10, zck_t hz, cr, show (zw M 0 9 1).1 68 r = -1 by rw [zw_nc (by decide)]; exact q2, if_pos (by decide), s_finds (by omega), Option.bind_some]; rfl
  rcases hI.rw t ht with ⟨p1, p2⟩ | ⟨p1, m, u, p2, p3, p4, p5, p6, p7, p8⟩
  · refine ⟨-1000010 - 1, zw M 0 9 1, zw (zw M 0 9 1) 66 4 1, S, ?_, ?_, fd 1⟩
    · apply c_X7_copy
      apply zL_of; rw [e_X7_copy_0, s_isRowC (by omega), Option.bind_some]
      dsimp only
      rw [zbi_t hz, if_neg zn10, s_isRowC (by omega), Option.bind_some]
      dsimp only
      rw [zbi_t hz2, if_neg zn10, zck_t hz, zck_t hz2, cr, er, zck_t z1, q1, if_neg zn10, ct, et, zck_t y1, p1, if_pos rfl, s_found (by omega), Option.bind_some]; rfl
    · apply c_X8_copy
      apply zL_of; rw [e_X8_copy_0, s_isRowM (by omega), Option.bind_some]
      dsimp only
      rw [zbi_t hz, if_neg zn10, s_isRowM (by omega), Option.bind_some]
      dsimp only
      rw [zbi_t hz2, if_neg zn10, zck_t hz, cr, show (zw M 0 9 1).1 68 r = nI n by rw [zw_nc (by decide)]; exact q5, if_neg (nI_pos (by omega)), zck_t hz2, ct, show (zw M 0 9 1).1 68 t = -1 by rw [zw_nc (by decide)]; exact p2, if_neg (by decide), s_finds (by omega), Option.bind_some]; rfl
  by_cases hl : l ≠ u
  · have hl' : ¬ nI l = nI u := fun q => hl ((nI_eq (by omega) (by omega)).mp q)
    refine ⟨-1000010 - 5, zw M 0 9 5, zw (zw M 0 9 5) 66 4 5, S, ?_, ?_, fd 5⟩
    · apply c_X7_copy
      apply zL_of; rw [e_X7_copy_0, s_isRowC (by omega), Option.bind_some]
      dsimp only
      rw [zbi_t hz, if_neg zn10, s_isRowC (by omega), Option.bind_some]
      dsimp only
      rw [zbi_t hz2, if_neg zn10, zck_t hz, zck_t hz2, cr, er, zck_t z1, q1, if_neg zn10, ct, et, zck_t y1, p1, if_neg zn10, zck_t z2, zck_t y2, q6, p6, if_neg hl', s_found (by omega), Option.bind_some]; rfl
    · apply c_X8_copy
      apply zL_of; rw [e_X8_copy_0, s_isRowM (by omega), Option.bind_some]
      dsimp only
      rw [zbi_t hz, if_neg zn10, s_isRowM (by omega), Option.bind_some]
      dsimp only
      rw [zbi_t hz2, if_neg zn10, zck_t hz, cr, show (zw M 0 9 5).1 68 r = nI n by rw [zw_nc (by decide)]; exact q5, if_neg (nI_pos (by omega)), zck_t hz2, ct, show (zw M 0 9 5).1 68 t = nI m by rw [zw_nc (by decide)]; exact p5, if_pos (nI_pos' (by omega)), zck_t hz, zck_t hz2, show (zw M 0 9 5).1 67 r = nI l by rw [zw_nc (by decide)]; exact q7, show (zw M 0 9 5).1 67 t = nI u by rw [zw_nc (by decide)]; exact p7, if_neg hl', s_finds (by omega), Option.bind_some]; rfl
  have hl : l = u := Decidable.of_not_not hl
  subst hl
  have g1 : ∀ v : Int32, (zw M 0 9 v).1 68 r = nI n := fun v => by rw [zw_nc (by decide)]; exact q5
  have g2 : ∀ v : Int32, (zw M 0 9 v).1 68 t = nI m := fun v => by rw [zw_nc (by decide)]; exact p5
  have g3 : ∀ v : Int32, (zw M 0 9 v).1 67 r = nI l := fun v => by rw [zw_nc (by decide)]; exact q7
  have g4 : ∀ v : Int32, (zw M 0 9 v).1 67 t = nI l := fun v => by rw [zw_nc (by decide)]; exact p7
  cases c1 : zrch n i k
  · refine ⟨-1000010 - 2, zw M 0 9 2, zw (zw M 0 9 2) 66 4 2, S, ?_, ?_, fd 2⟩
    · apply c_X7_copy
      apply zL_of; rw [e_X7_copy_0, s_isRowC (by omega), Option.bind_some]
      dsimp only
      rw [zbi_t hz, if_neg zn10, s_isRowC (by omega), Option.bind_some]
      dsimp only
      rw [zbi_t hz2, if_neg zn10, zck_t hz, zck_t hz2, cr, er, zck_t z1, q1, if_neg zn10, ct, et, zck_t y1, p1, if_neg zn10, zck_t z2, zck_t y2, q6, p6, if_pos rfl, zck_t (by rw [z6]; rfl), s_reaches (by omega) hr q2 q4, Option.bind_some]
      dsimp only
      rw [c1, zbi_f (by decide), if_pos rfl, s_found (by omega), Option.bind_some]; rfl
    · apply c_X8_copy
      apply zL_of; rw [e_X8_copy_0, s_isRowM (by omega), Option.bind_some]
      dsimp only
      rw [zbi_t hz, if_neg zn10, s_isRowM (by omega), Option.bind_some]
      dsimp only
      rw [zbi_t hz2, if_neg zn10, zck_t hz, cr, g1, if_neg (nI_pos (by omega)), zck_t hz2, ct, g2, if_pos (nI_pos' (by omega)), zck_t hz, zck_t hz2, g3, g4, if_pos rfl, s_isPlace (by omega) hr q2 (g1 2), Option.bind_some]
      dsimp only
      rw [c1, zbi_f (by decide), if_pos rfl, s_finds (by omega), Option.bind_some]; rfl
  cases c2 : zrch m j k
  · refine ⟨-1000010 - 2, zw M 0 9 2, zw (zw M 0 9 2) 66 4 2, S, ?_, ?_, fd 2⟩
    · apply c_X7_copy
      apply zL_of; rw [e_X7_copy_0, s_isRowC (by omega), Option.bind_some]
      dsimp only
      rw [zbi_t hz, if_neg zn10, s_isRowC (by omega), Option.bind_some]
      dsimp only
      rw [zbi_t hz2, if_neg zn10, zck_t hz, zck_t hz2, cr, er, zck_t z1, q1, if_neg zn10, ct, et, zck_t y1, p1, if_neg zn10, zck_t z2, zck_t y2, q6, p6, if_pos rfl, zck_t (by rw [z6]; rfl), s_reaches (by omega) hr q2 q4, Option.bind_some]
      dsimp only
      rw [zbi_t c1, if_neg zn10, zck_t (by rw [y6]; rfl), s_reaches (by omega) ht p2 p4, Option.bind_some]
      dsimp only
      rw [c2, zbi_f (by decide), if_pos rfl, s_found (by omega), Option.bind_some]; rfl
    · apply c_X8_copy
      apply zL_of; rw [e_X8_copy_0, s_isRowM (by omega), Option.bind_some]
      dsimp only
      rw [zbi_t hz, if_neg zn10, s_isRowM (by omega), Option.bind_some]
      dsimp only
      rw [zbi_t hz2, if_neg zn10, zck_t hz, cr, g1, if_neg (nI_pos (by omega)), zck_t hz2, ct, g2, if_pos (nI_pos' (by omega)), zck_t hz, zck_t hz2, g3, g4, if_pos rfl, s_isPlace (by omega) hr q2 (g1 2), Option.bind_some]
      dsimp only
      rw [zbi_t c1, if_neg zn10, s_isPlace (by omega) ht p2 (g2 2), Option.bind_some]
      dsimp only
      rw [c2, zbi_f (by decide), if_pos rfl, s_finds (by omega), Option.bind_some]; rfl
  obtain ⟨i, k, rfl, rfl, hik⟩ := zrch_of q2 c1
  obtain ⟨j, k', rfl, ek, hjk⟩ := zrch_of p2 c2
  have hk' : k' = k ∨ k' ≠ k := by omega
  have hjk : j + k ≤ m := by
    simp only [zrch, Bool.and_eq_true, decide_eq_true_eq] at c2
    rw [nI_toInt (by omega), nI_toInt (by omega)] at c2
    omega
  clear ek hk'
  obtain ⟨w1, w2⟩ := zrow_l r hr
  obtain ⟨v1, v2⟩ := zrow_l t ht
  have key1 : ∀ M1 : ZM, ∀ R, (zL (zenv zbt d) tb_X8_copy cu_X8_copy 136 [some (.ref 66), none, none, some (.int (nI t)), some (.int (nI j)), some (.int (nI k)), some (.int 0)] [] (zcp M1 69 (40 * r + i) 70 0 k) R) → ∀ e, e ≤ k → zL (zenv zbt d) tb_X8_copy cu_X8_copy 99 [some (.ref 66), some (.int (nI r)), some (.int (nI i)), some (.int (nI t)), some (.int (nI j)), some (.int (nI k)), some (.int (nI e))] [] (zcp M1 69 (40 * r + i) 70 0 e) R := by
    intro M1 R hR
    apply zup
    · apply zL_of; rw [e_X8_copy_99, if_pos (nI_le (Nat.le_refl _) (by omega))]; exact zPo_go hR
    · intro e he ih
      apply zL_of; rw [e_X8_copy_99, if_neg (nI_ge he (by omega)), zlit 40, pk_mul, nI_add, nI_add, zck_t (zinN (by omega) (by decide)), zck_t (zinN (by omega) (by decide)), zcN (by omega), zcN (by omega), zcp_nc (by decide), nI_1]
      have := zcp_s (M := M1) (a := 69) (sp := 40 * r + i) (b := 70) (dp := 0) (k := e)
      rw [Nat.zero_add] at this
      rw [this]
      exact zPo_go ih
  have key2 : ∀ M1 : ZM, ∀ e, e ≤ k → zL (zenv zbt d) tb_X8_copy cu_X8_copy 136 [some (.ref 66), none, none, some (.int (nI t)), some (.int (nI j)), some (.int (nI k)), some (.int (nI e))] [] (zcp M1 70 0 69 (40 * t + j) e) (some (.int (nI k)), zcp M1 70 0 69 (40 * t + j) k) := by
    intro M1
    apply zup
    · apply zL_of; rw [e_X8_copy_136, if_pos (nI_le (Nat.le_refl _) (by omega))]; rfl
    · intro e he ih
      apply zL_of; rw [e_X8_copy_136, if_neg (nI_ge he (by omega)), zlit 40, pk_mul, nI_add, nI_add, zck_t (zinN (by omega) (by decide)), zck_t (zinN (by omega) (by decide)), zcN (by omega), zcN (by omega), zcp_nc (by decide), nI_1]
      have := zcp_s (M := M1) (a := 70) (sp := 0) (b := 69) (dp := 40 * t + j) (k := e)
      rw [Nat.zero_add] at this
      rw [this]
      exact zPo_go ih
  refine ⟨nI k, zw (zcp M (10 + r) i (10 + t) j k) 0 9 0, zcp (zcp (zw (zw (zcp M (10 + r) i (10 + t) j k) 0 9 0) 66 4 0) 69 (40 * r + i) 70 0 k) 70 0 69 (40 * t + j) k, S, ?_, ?_, ?_⟩
  · apply c_X7_copy
    apply zL_of; rw [e_X7_copy_0, s_isRowC (by omega), Option.bind_some]
    dsimp only
    rw [zbi_t hz, if_neg zn10, s_isRowC (by omega), Option.bind_some]
    dsimp only
    rw [zbi_t hz2, if_neg zn10, zck_t hz, zck_t hz2, cr, er, zck_t z1, q1, if_neg zn10, ct, et, zck_t y1, p1, if_neg zn10, zck_t z2, zck_t y2, q6, p6, if_pos rfl, zck_t (by rw [z6]; rfl), s_reaches (by omega) hr q2 q4, Option.bind_some]
    dsimp only
    rw [zbi_t c1, if_neg zn10, zck_t (by rw [y6]; rfl), s_reaches (by omega) ht p2 p4, Option.bind_some]
    dsimp only
    rw [zbi_t c2, if_neg zn10, zck_t z4, zck_t y4, z5, y5, zcN (show i < 2 ^ 31 by omega), zcN (show j < 2 ^ 31 by omega), zcN (show k < 2 ^ 31 by omega), zck_t, s_fine (by omega), Option.bind_some]
    · rfl
    · rw [w1, w2, v1, v2, decide_eq_false (nI_pos (show i < 2 ^ 31 by omega)), decide_eq_false (nI_pos (show j < 2 ^ 31 by omega)), decide_eq_false (nI_pos (show k < 2 ^ 31 by omega)), decide_eq_true (show i + k ≤ 40 by omega), decide_eq_true (show j + k ≤ 40 by omega)]; rfl
  · have g1 : (zw (zcp M (10 + r) i (10 + t) j k) 0 9 0).1 68 r = nI n := by rw [zw_nc (by decide), zcp_nc (by omega)]; exact q5
    have g2 : (zw (zcp M (10 + r) i (10 + t) j k) 0 9 0).1 68 t = nI m := by rw [zw_nc (by decide), zcp_nc (by omega)]; exact p5
    have g3 : (zw (zcp M (10 + r) i (10 + t) j k) 0 9 0).1 67 r = nI l := by rw [zw_nc (by decide), zcp_nc (by omega)]; exact q7
    have g4 : (zw (zcp M (10 + r) i (10 + t) j k) 0 9 0).1 67 t = nI l := by rw [zw_nc (by decide), zcp_nc (by omega)]; exact p7
    apply c_X8_copy
    apply zL_of; rw [e_X8_copy_0, s_isRowM (by omega), Option.bind_some]
    dsimp only
    rw [zbi_t hz, if_neg zn10, s_isRowM (by omega), Option.bind_some]
    dsimp only
    rw [zbi_t hz2, if_neg zn10, zck_t hz, cr, g1, if_neg (nI_pos (by omega)), zck_t hz2, ct, g2, if_pos (nI_pos' (by omega)), zck_t hz, zck_t hz2, g3, g4, if_pos rfl, s_isPlace (by omega) hr q2 g1, Option.bind_some]
    dsimp only
    rw [zbi_t c1, if_neg zn10, s_isPlace (by omega) ht p2 g2, Option.bind_some]
    dsimp only
    rw [zbi_t c2, if_neg zn10]
    apply zPo_go
    have h2 := key2 (zcp (zw (zw (zcp M (10 + r) i (10 + t) j k) 0 9 0) 66 4 0) 69 (40 * r + i) 70 0 k) 0 (by omega)
    rw [zcp_0] at h2
    have h1 := key1 (zw (zw (zcp M (10 + r) i (10 + t) j k) 0 9 0) 66 4 0) _ h2 0 (by omega)
    rw [zcp_0] at h1
    exact h1
  · refine hI.upR ?_ ?_ (fun e he => ?_) (hI.rw.of (r := t) (fun r' hr' hne => ⟨?_, ?_, ?_, ?_, fun e he => ?_⟩) (Or.inr ⟨?_, m, l, p2, p3, ?_, ?_, ?_, ?_, fun e he => ?_⟩))
    · exact ((((zFr.rf.cp (zmr ht).2).w (by decide)).w (by decide)).cp (by decide)).cp (by decide)
    all_goals first
      | (simp (disch := omega) only [zw_nc, zw_eq, zw_nk, zcp_nc, zcp_out, p1, p4, p5, p6, p7]; done)
      | (by_cases h : j ≤ e ∧ e < j + k
         · simp (disch := omega) only [zw_nc, zw_eq, zw_nk, zcp_nc, zcp_in, q8]
           rw [show 40 * r + i + (0 + (40 * t + e - (40 * t + j)) - 0) = 40 * r + (i + (e - j)) by omega]
         · simp (disch := omega) only [zw_nc, zw_eq, zw_nk, zcp_nc, zcp_out, p8])
end ZX24

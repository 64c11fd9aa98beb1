/-! Rows: row, set, copy -/
section ZX22
variable {M : ZM} {c c' k k' : Nat} {v : Int32}
theorem zw_nc (h : c' ≠ c) : (zw M c k v).1 c' = M.1 c' := by funext j; rw [zw_at, if_neg (fun q => h q.1)]
theorem zw_nk (h : k' ≠ k) : (zw M c k v).1 c k' = M.1 c k' := by rw [zw_at, if_neg (fun q => h q.2)]
theorem zfl_nc {lo n : Nat} (h : c' ≠ c) : (zfl M c lo n v).1 c' = M.1 c' := by funext j; rw [zfl_at, if_neg (fun q => h q.1)]
theorem zfl_in {lo n : Nat} (h : lo ≤ k) (h2 : k < lo + n) : (zfl M c lo n v).1 c k = v := by rw [zfl_at, if_pos ⟨rfl, h, h2⟩]
theorem zfl_out {lo n : Nat} (h : k < lo ∨ lo + n ≤ k) : (zfl M c lo n v).1 c k = M.1 c k := by rw [zfl_at, if_neg (by omega)]
theorem zcp_nc {a sp dp n : Nat} (h : c' ≠ c) : (zcp M a sp c dp n).1 c' = M.1 c' := by funext j; rw [zcp_at, if_neg (fun q => h q.1)]
theorem zcp_in {a sp dp n : Nat} (h : dp ≤ k) (h2 : k < dp + n) : (zcp M a sp c dp n).1 c k = M.1 a (sp + (k - dp)) := by rw [zcp_at, if_pos ⟨rfl, h, h2⟩]
theorem zcp_out {a sp dp n : Nat} (h : k < dp ∨ dp + n ≤ k) : (zcp M a sp c dp n).1 c k = M.1 c k := by rw [zcp_at, if_neg (by omega)]
end ZX22
theorem zin_f {x : Int32} {n : Nat} (hn : n < 2 ^ 31) (h : zin x n = false) : x < 0 ∨ nI n ≤ x := by
  rcases pk_ix x hn with h1 | h1 | ⟨j, hj, rfl⟩
  · exact Or.inl h1
  · exact Or.inr h1
  · rw [zinN hj hn] at h; cases h
theorem zrw_r {r : Nat} (hr : r < 8) : zrw (2 + r) := by unfold zrw; omega
theorem zrow_l : ∀ r, r < 8 → zty (10 + r) 0 = true ∧ zln (10 + r) = 40 := by decide
theorem zRows.of {M M' : ZM} {r : Nat} (h : zRows M) (ho : ∀ r', r' < 8 → r' ≠ r → M'.1 (2 + r') = M.1 (2 + r') ∧ M'.1 (10 + r') = M.1 (10 + r') ∧ M'.1 68 r' = M.1 68 r' ∧ M'.1 67 r' = M.1 67 r' ∧ ∀ i, i < 40 → M'.1 69 (40 * r' + i) = M.1 69 (40 * r' + i)) (hr : zRow M' r) : zRows M' := by
  intro r' hr'
  by_cases e : r' = r
  · rw [e]; exact hr
  · obtain ⟨o1, o2, o3, o4, o5⟩ := ho r' hr' e
    have := h r' hr'
    unfold zRow at this ⊢
    rw [o1, o2, o3, o4]
    rcases this with t | ⟨t1, n, l, t2, t3, t4, t5, t6, t7, t8⟩
    · exact Or.inl t
    · exact Or.inr ⟨t1, n, l, t2, t3, t4, t5, t6, t7, fun i hi => by rw [o5 i hi]; exact t8 i hi⟩
section ZX23
variable {d : Nat} {M : ZM} {S : Nat → Nat}
theorem s_begin (hd : 2 ≤ d) {r : Nat} (hr : r < 8) (x1 x2 : Int32) : (zenv zbt d).2.2 50 [.ref (2 + r), .int x1, .int x2] M = some (zfl (zw (zw (zw M (2 + r) 1 1) (2 + r) 2 x1) (2 + r) 3 x2) (10 + r) 0 40 0) := by
  obtain ⟨d, rfl⟩ : ∃ e, d = e + 1 := ⟨d - 1, by omega⟩
  obtain ⟨z1, z2⟩ := zrow_l r hr
  apply c_X4_begin
  apply zL_of; rw [e_X4_begin_0 _ _ _ (zrw_r hr), show 2 + r + 8 = 10 + r by omega, s_fill (by omega) z1 (by omega), Option.bind_some, z2]; rfl
theorem zmr {r : Nat} (hr : r < 8) : 2 + r ∈ zRwC ∧ 10 + r ∈ zRwC := by
  simp only [zRwC, List.mem_cons, List.not_mem_nil, or_false]
  omega
theorem a_row (hI : zInv S M) (x y n : Int32) : zAl 80 148 [.int x, .int y, .int n] M := by
  intro d hd
  obtain ⟨d, rfl⟩ : ∃ e, d = e + 1 := ⟨d - 1, by omega⟩
  have h3 : ((0 : Int32) ≤ y ∧ y ≤ 2) ↔ zin y 3 = true := zgm (n := 3) (by decide)
  cases hz : zin x 8
  · refine ⟨-1000001, M, M, S, ?_, ?_, hI⟩
    · apply c_X7_row
      apply zL_of; rw [e_X7_row_0, s_isRowC (by omega), Option.bind_some]
      dsimp only
      rw [hz, zbi_f (by decide), if_pos rfl]; rfl
    · apply c_X8_row
      apply zL_of; rw [e_X8_row_0, s_isRowM (by omega), Option.bind_some]
      dsimp only
      rw [hz, zbi_f (by decide), if_pos rfl]; rfl
  cases hy : zin y 3
  · refine ⟨-1000001, M, M, S, ?_, ?_, hI⟩
    · apply c_X7_row
      apply zL_of; rw [e_X7_row_0, s_isRowC (by omega), Option.bind_some]
      dsimp only
      rw [zbi_t hz, if_neg zn10]
      by_cases y0 : y < 0
      · rw [if_pos y0]; rfl
      · rw [if_neg y0, if_pos (show (3 : Int32) ≤ y from (zin_f (by decide) hy).resolve_left y0)]; rfl
    · apply c_X8_row
      apply zL_of; rw [e_X8_row_0, s_isRowM (by omega), Option.bind_some]
      dsimp only
      rw [zbi_t hz, if_neg zn10, s_in (by omega), Option.bind_some, zbi_eq h3]
      dsimp only
      rw [hy, zbi_f (by decide), if_pos rfl]; rfl
  obtain ⟨r, hr, rfl⟩ := (zin_iff (by decide)).mp hz
  obtain ⟨l, hl, rfl⟩ := (zin_iff (by decide)).mp hy
  have y1 : ¬ (nI l < 0) := nI_pos (by omega)
  have y2 : ¬ ((3 : Int32) ≤ nI l) := nI_ge hl (by decide)
  by_cases h40 : n ≤ 40
  · by_cases h0 : 0 ≤ n
    · obtain ⟨n, hn, rfl⟩ := nI_of2 (M := 40) (n := 40) rfl (Int32.not_lt.mpr h0) h40
      obtain ⟨z1, z2, z3, z4, z5, z6⟩ := zfi4 r hr
      have key : ∀ M1 : ZM, ∀ i, i ≤ 40 → zL (zenv zbt d) tb_X8_row cu_X8_row 57 [some (.ref 66), some (.int (nI r)), none, some (.int (nI n)), some (.int (nI i))] [] (zfl M1 69 (40 * r) i 0) (some (.int (nI n)), zfl M1 69 (40 * r) 40 0) := by
        intro M1
        apply zup
        · apply zL_of; rw [e_X8_row_57, if_pos (by decide)]; rfl
        · intro i hi ih
          apply zL_of; rw [e_X8_row_57, if_neg (show ¬ ((40 : Int32) ≤ nI i) from nI_ge hi (by decide)), zlit 40, pk_mul, nI_add, zck_t (zinN (by omega) (by decide)), zcN (by omega), zfl_s, nI_1]
          exact zPo_go ih
      refine ⟨nI n, zw (zfl (zw (zw (zw M (2 + r) 1 1) (2 + r) 2 (nI l)) (2 + r) 3 (nI n)) (10 + r) 0 40 0) 0 9 0, zfl (zw (zw (zw (zw (zfl (zw (zw (zw M (2 + r) 1 1) (2 + r) 2 (nI l)) (2 + r) 3 (nI n)) (10 + r) 0 40 0) 0 9 0) 66 4 0) 67 r (nI l)) 68 r (nI n)) 69 (40 * r) 40 0, S, ?_, ?_, ?_⟩
      · apply c_X7_row
        apply zL_of; rw [e_X7_row_0, s_isRowC (by omega), Option.bind_some]
        dsimp only
        rw [zbi_t hz, if_neg zn10, if_neg y1, if_neg y2, if_pos h40, if_pos h0, zck_t hz, zcN (by omega), zel1 r hr, zck_t (by rw [z6]; rfl), s_begin (by omega) hr, Option.bind_some, s_fine (by omega), Option.bind_some]; rfl
      · apply c_X8_row
        apply zL_of; rw [e_X8_row_0, s_isRowM (by omega), Option.bind_some]
        dsimp only
        rw [zbi_t hz, if_neg zn10, s_in (by omega), Option.bind_some, zbi_eq h3]
        dsimp only
        rw [zbi_t hy, if_neg zn10, if_pos h40, if_pos h0, zck_t hz, zck_t hz, zcN (by omega)]
        apply zPo_go
        have := key (zw (zw (zw (zw (zfl (zw (zw (zw M (2 + r) 1 1) (2 + r) 2 (nI l)) (2 + r) 3 (nI n)) (10 + r) 0 40 0) 0 9 0) 66 4 0) 67 r (nI l)) 68 r (nI n)) 0 (by omega)
        rw [zfl_0] at this
        exact this
      · refine hI.upR ?_ ?_ (fun k hk => ?_) (hI.rw.of (r := r) (fun r' hr' hne => ⟨?_, ?_, ?_, ?_, fun i hi => ?_⟩) (Or.inr ⟨?_, n, l, hn, by omega, ?_, ?_, ?_, ?_, fun i hi => ?_⟩))
        · exact (((((((((zFr.rf.w (zmr hr).1).w (zmr hr).1).w (zmr hr).1).fl (zmr hr).2).w (by decide)).w (by decide)).w (by decide)).w (by decide)).fl (by decide))
        all_goals simp (disch := omega) only [zw_nc, zw_eq, zw_nk, zfl_nc, zfl_in, zfl_out]
    · refine ⟨-1000010 - 4, zw M 0 9 4, zw (zw M 0 9 4) 66 4 4, S, ?_, ?_, hI.st 4⟩
      · apply c_X7_row
        apply zL_of; rw [e_X7_row_0, s_isRowC (by omega), Option.bind_some]
        dsimp only
        rw [zbi_t hz, if_neg zn10, if_neg y1, if_neg y2, if_pos h40, if_neg h0, s_found (by omega), Option.bind_some]; rfl
      · apply c_X8_row
        apply zL_of; rw [e_X8_row_0, s_isRowM (by omega), Option.bind_some]
        dsimp only
        rw [zbi_t hz, if_neg zn10, s_in (by omega), Option.bind_some, zbi_eq h3]
        dsimp only
        rw [zbi_t hy, if_neg zn10, if_pos h40, if_neg h0, s_finds (by omega), Option.bind_some]; rfl
  · refine ⟨-1000001, M, M, S, ?_, ?_, hI⟩
    · apply c_X7_row
      apply zL_of; rw [e_X7_row_0, s_isRowC (by omega), Option.bind_some]
      dsimp only
      rw [zbi_t hz, if_neg zn10, if_neg y1, if_neg y2, if_neg h40]; rfl
    · apply c_X8_row
      apply zL_of; rw [e_X8_row_0, s_isRowM (by omega), Option.bind_some]
      dsimp only
      rw [zbi_t hz, if_neg zn10, s_in (by omega), Option.bind_some, zbi_eq h3]
      dsimp only
      rw [zbi_t hy, if_neg zn10, if_neg h40]; rfl
theorem s_put (hd : 1 ≤ d) {r i : Nat} (hr : r < 8) (hi : i < 40) {l : Nat} (hl : l ≤ 2) (h2 : M.1 (2 + r) 2 = nI l) (v : Int32) : (zenv zbt d).1 52 [.ref (2 + r), .int (nI i), .int v] M = some (if l = 0 then v.toInt8.toInt32 else if l = 1 then v.toInt16.toInt32 else v, zw M (10 + r) i (if l = 0 then v.toInt8.toInt32 else if l = 1 then v.toInt16.toInt32 else v)) := by
  obtain ⟨d, rfl⟩ : ∃ e, d = e + 1 := ⟨d - 1, by omega⟩
  have hz := zinN hi (show 40 < 2 ^ 31 by decide)
  apply c_X4_put
  apply zL_of; rw [e_X4_put_0 _ _ _ (zrw_r hr), h2, show 2 + r + 8 = 10 + r by omega]
  have : l = 0 ∨ l = 1 ∨ l = 2 := by omega
  rcases this with rfl | rfl | rfl
  · rw [if_pos rfl, zck_t hz, zck_t hz, zcN (by omega), zw_eq]; rfl
  · rw [if_neg (by decide), if_pos rfl, zck_t hz, zck_t hz, zcN (by omega), zw_eq]; rfl
  · rw [if_neg (by decide), if_neg (by decide), zck_t hz, zck_t hz, zcN (by omega), zw_eq]; rfl
theorem zgs {n i : Nat} (x : Int32) (hn : n < 2 ^ 30) (hi : i < 2 ^ 30) : nI n - nI i < x ↔ (n : Int) - i < x.toInt := by
  rw [Int32.lt_iff_toInt_lt, pk_sub_toInt hn hi]
/-- so many from there on lie in the row -/
def zrch (n : Nat) (i k : Int32) : Bool := decide (0 ≤ i.toInt) && decide (0 ≤ k.toInt) && decide (i.toInt + k.toInt ≤ n)
theorem zlt0 {x : Int32} : x < 0 ↔ x.toInt < 0 := by rw [Int32.lt_iff_toInt_lt]; rfl
theorem s_reaches (hd : 1 ≤ d) {r n : Nat} (hr : r < 8) (hn : n ≤ 40) (h3 : M.1 (2 + r) 3 = nI n) (i k : Int32) : (zenv zbt d).1 51 [.ref (2 + r), .int i, .int k] M = some (zbi (zrch n i k = true), M) := by
  obtain ⟨d, rfl⟩ : ∃ e, d = e + 1 := ⟨d - 1, by omega⟩
  apply c_X4_reaches
  apply zL_of; rw [e_X4_reaches_0 _ _ _ (zrw_r hr), h3]
  by_cases h1 : i < 0
  · rw [if_pos h1, zbi_f]; · rfl
    have := zlt0.mp h1
    simp only [zrch, Bool.and_eq_true, decide_eq_true_eq]; omega
  rw [if_neg h1]
  obtain ⟨i, hi, rfl⟩ := nI_of h1
  by_cases h2 : k < 0
  · rw [if_pos h2, zbi_f]; · rfl
    have := zlt0.mp h2
    simp only [zrch, Bool.and_eq_true, decide_eq_true_eq]; omega
  rw [if_neg h2]
  obtain ⟨k, hk, rfl⟩ := nI_of h2
  unfold zrch
  rw [nI_toInt hi, nI_toInt hk]
  simp only [Bool.and_eq_true, decide_eq_true_eq]
  by_cases h4 : nI n < nI i
  · have := (nI_ltI (by omega) hi).mp h4
    rw [if_pos h4, zbi_f (by omega)]; rfl
  · have h5 : i ≤ n := Nat.le_of_not_lt (fun q => h4 (nI_lt q hi))
    rw [if_neg h4, pk_sub h5]
    by_cases h6 : nI (n - i) < nI k
    · have := (nI_ltI (by omega) hk).mp h6
      rw [if_pos h6, zbi_f (by omega)]; rfl
    · have h7 : k ≤ n - i := Nat.le_of_not_lt (fun q => h6 (nI_lt q hk))
      rw [if_neg h6, zbi_t (by omega)]; rfl
theorem s_isPlace (hd : 1 ≤ d) {r n : Nat} (hr : r < 8) (hn : n ≤ 40) (h3 : M.1 68 r = nI n) (i k : Int32) : (zenv zbt d).1 150 [.ref 66, .int (nI r), .int i, .int k] M = some (zbi (zrch n i k = true), M) := by
  obtain ⟨d, rfl⟩ : ∃ e, d = e + 1 := ⟨d - 1, by omega⟩
  have hz := zinN hr (show 8 < 2 ^ 31 by decide)
  apply c_X8_isPlace
  apply zL_of; rw [e_X8_isPlace_0, zcN (by omega), h3]
  by_cases h1 : i < 0
  · rw [if_pos h1, zbi_f]; · rfl
    have := zlt0.mp h1
    simp only [zrch, Bool.and_eq_true, decide_eq_true_eq]; omega
  rw [if_neg h1]
  obtain ⟨i, hi, rfl⟩ := nI_of h1
  by_cases h2 : k < 0
  · rw [if_pos h2, zbi_f]; · rfl
    have := zlt0.mp h2
    simp only [zrch, Bool.and_eq_true, decide_eq_true_eq]; omega
  rw [if_neg h2, zck_t hz]
  obtain ⟨k, hk, rfl⟩ := nI_of h2
  unfold zrch
  rw [nI_toInt hi, nI_toInt hk]
  simp only [Bool.and_eq_true, decide_eq_true_eq]
  by_cases h4 : nI n < nI k
  · have := (nI_ltI (by omega) hk).mp h4
    rw [if_pos h4, zbi_f (by omega)]; rfl
  · have h5 : k ≤ n := Nat.le_of_not_lt (fun q => h4 (nI_lt q hk))
    rw [if_neg h4, zck_t hz, pk_sub h5]
    by_cases h6 : nI (n - k) < nI i
    · have := (nI_ltI (by omega) hi).mp h6
      rw [if_pos h6, zbi_f (by omega)]; rfl
    · have h7 : i ≤ n - k := Nat.le_of_not_lt (fun q => h6 (nI_lt q hi))
      rw [if_neg h6, zbi_t (by omega)]; rfl
theorem zrch1 {n : Nat} {i : Int32} (hn : n ≤ 40) : (zrch n i 1 = true) ↔ zin i n = true := by
  rw [zin_int]
  simp only [zrch, Bool.and_eq_true, decide_eq_true_eq, show (1 : Int32).toInt = 1 from rfl]
  omega
theorem a_set (hI : zInv S M) (x i v : Int32) : zAl 81 149 [.int x, .int i, .int v] M := by
  intro d hd
  obtain ⟨d, rfl⟩ : ∃ e, d = e + 1 := ⟨d - 1, by omega⟩
  cases hz : zin x 8
  · refine ⟨-1000001, M, M, S, ?_, ?_, hI⟩
    · apply c_X7_set
      apply zL_of; rw [e_X7_set_0, s_isRowC (by omega), Option.bind_some]
      dsimp only
      rw [hz, zbi_f (by decide), if_pos rfl]; rfl
    · apply c_X8_set
      apply zL_of; rw [e_X8_set_0, s_isRowM (by omega), Option.bind_some]
      dsimp only
      rw [hz, zbi_f (by decide), if_pos rfl]; rfl
  obtain ⟨r, hr, rfl⟩ := (zin_iff (by decide)).mp hz
  obtain ⟨z1, z2, z3, z4, z5, z6⟩ := zfi4 r hr
  rcases hI.rw r hr with ⟨q1, q2⟩ | ⟨q1, n, l, q2, q3, q4, q5, q6, q7, q8⟩
  · refine ⟨-1000010 - 1, zw M 0 9 1, zw (zw M 0 9 1) 66 4 1, S, ?_, ?_, hI.st 1⟩
    · apply c_X7_set
      apply zL_of; rw [e_X7_set_0, s_isRowC (by omega), Option.bind_some]
      dsimp only
      rw [zbi_t hz, if_neg zn10, zck_t hz, zcN (by omega), zel1 r hr, zck_t z1, q1, if_pos rfl, s_found (by omega), Option.bind_some]; rfl
    · apply c_X8_set
      apply zL_of; rw [e_X8_set_0, s_isRowM (by omega), Option.bind_some]
      dsimp only
      rw [zbi_t hz, if_neg zn10, zck_t hz, zcN (by omega), show (zw M 0 9 1).1 68 r = -1 by rw [zw_nc (by decide)]; exact q2, if_neg (by decide), s_finds (by omega), Option.bind_some]; rfl
  cases hi : zin i n
  · refine ⟨-1000010 - 2, zw M 0 9 2, zw (zw M 0 9 2) 66 4 2, S, ?_, ?_, hI.st 2⟩
    · apply c_X7_set
      apply zL_of; rw [e_X7_set_0, s_isRowC (by omega), Option.bind_some]
      dsimp only
      rw [zbi_t hz, if_neg zn10, zck_t hz, zcN (by omega), zel1 r hr, zck_t z1, q1, if_neg zn10, zck_t hz, zck_t (by rw [z6]; rfl), s_reaches (by omega) hr q2 q4, Option.bind_some, zbi_eq (zrch1 q2)]
      dsimp only
      rw [hi, zbi_f (by decide), if_pos rfl, s_found (by omega), Option.bind_some]; rfl
    · apply c_X8_set
      apply zL_of; rw [e_X8_set_0, s_isRowM (by omega), Option.bind_some]
      dsimp only
      rw [zbi_t hz, if_neg zn10, zck_t hz, zcN (by omega), show (zw M 0 9 2).1 68 r = nI n by rw [zw_nc (by decide)]; exact q5, if_pos (nI_pos' (by omega)), zck_t hz, s_in (by omega), Option.bind_some, zbi_eq (zgm (show n < 2 ^ 30 by omega))]
      dsimp only
      rw [hi, zbi_f (by decide), if_pos rfl, s_finds (by omega), Option.bind_some]; rfl
  obtain ⟨i, hin, rfl⟩ := (zin_iff (by omega)).mp hi
  have hm : ∃ w, w = (if l = 0 then v.toInt8.toInt32 else if l = 1 then v.toInt16.toInt32 else v) := ⟨_, rfl⟩
  obtain ⟨w, hw⟩ := hm
  refine ⟨w, zw (zw M (10 + r) i w) 0 9 0, zw (zw (zw (zw M (10 + r) i w) 0 9 0) 66 4 0) 69 (40 * r + i) w, S, ?_, ?_, ?_⟩
  · apply c_X7_set
    apply zL_of; rw [e_X7_set_0, s_isRowC (by omega), Option.bind_some]
    dsimp only
    rw [zbi_t hz, if_neg zn10, zck_t hz, zcN (by omega), zel1 r hr, zck_t z1, q1, if_neg zn10, zck_t hz, zck_t (by rw [z6]; rfl), s_reaches (by omega) hr q2 q4, Option.bind_some, zbi_eq (zrch1 q2)]
    dsimp only
    rw [zbi_t hi, if_neg zn10, zck_t hz, zck_t (by rw [z6]; rfl), s_put (by omega) hr (by omega) q3 q6, Option.bind_some, ← hw, s_fine (by omega), Option.bind_some]; rfl
  · have e1 : (zw (zw M (10 + r) i w) 0 9 0).1 68 r = nI n := by rw [zw_nc (by decide), zw_nc (by omega)]; exact q5
    have e2 : (zw (zw M (10 + r) i w) 0 9 0).1 67 r = nI l := by rw [zw_nc (by decide), zw_nc (by omega)]; exact q7
    have hz3 : zin (nI (40 * r + i)) 320 = true := zinN (by omega) (by decide)
    apply c_X8_set
    apply zL_of; rw [e_X8_set_0, s_isRowM (by omega), Option.bind_some]
    dsimp only
    rw [zbi_t hz, if_neg zn10, zck_t hz, zcN (by omega), e1, if_pos (nI_pos' (by omega)), zck_t hz, s_in (by omega), Option.bind_some, zbi_eq (zgm (show n < 2 ^ 30 by omega))]
    dsimp only
    rw [zbi_t hi, if_neg zn10, zck_t hz, e2, zlit 40, pk_mul, nI_add, zcN (show 40 * r + i < 2 ^ 31 by omega)]
    simp only [zck_t hz, zck_t hz3]
    have : l = 0 ∨ l = 1 ∨ l = 2 := by omega
    rcases this with rfl | rfl | rfl
    · rw [if_pos (show nI 0 = (0 : Int32) from rfl), hw]; rfl
    · rw [if_neg (by decide), if_pos (show nI 1 = (1 : Int32) from rfl), hw]; rfl
    · rw [if_neg (by decide), if_neg (by decide), hw]; rfl
  · refine hI.upR ?_ ?_ (fun k hk => ?_) (hI.rw.of (r := r) (fun r' hr' hne => ⟨?_, ?_, ?_, ?_, fun i' hi' => ?_⟩) (Or.inr ⟨?_, n, l, q2, q3, ?_, ?_, ?_, ?_, fun i' hi' => ?_⟩))
    · exact (((zFr.rf.w (zmr hr).2).w (by decide)).w (by decide)).w (by decide)
    all_goals first
      | (by_cases e : i' = i
         · subst e; simp (disch := omega) only [zw_nc, zw_eq, zw_nk]
         · simp (disch := omega) only [zw_nc, zw_eq, zw_nk, q8])
      | simp (disch := omega) only [zw_nc, zw_eq, zw_nk, q1, q4, q5, q6, q7]
end ZX23

/-! Rows: row, set, drop; feed -/
def zfl (M : ZM) (c lo k : Nat) (v : Int32) : ZM := (fun c' => if c' = c then (fun j => if lo ≤ j ∧ j < lo + k then v else M.1 c j) else M.1 c', M.2)
theorem zfl_0 (M : ZM) (c lo : Nat) (v : Int32) : zfl M c lo 0 v = M := by
  unfold zfl
  apply Prod.ext
  · funext c' j
    by_cases h : c' = c
    · subst h; simp; omega
    · simp [h]
  · rfl
theorem zfl_s (M : ZM) (c lo k : Nat) (v : Int32) : zw (zfl M c lo k v) c (lo + k) v = zfl M c lo (k + 1) v := by
  apply Prod.ext
  · funext c' j
    rw [zw_at]
    unfold zfl
    by_cases h : c' = c
    · subst h
      by_cases e : j = lo + k
      · subst e; simp
      · simp only [true_and, e, if_false, if_true]
        by_cases h2 : lo ≤ j ∧ j < lo + k
        · rw [if_pos h2, if_pos (by omega)]
        · rw [if_neg h2, if_neg (by omega)]
    · simp [h]
  · rfl
theorem zfl_at (M : ZM) (c lo k : Nat) (v : Int32) (c' j : Nat) : (zfl M c lo k v).1 c' j = if c' = c ∧ lo ≤ j ∧ j < lo + k then v else M.1 c' j := by
  unfold zfl
  by_cases h : c' = c
  · subst h; simp
  · simp [h]
theorem zFr.fl {cs : List Nat} {M M1 : ZM} {c lo k : Nat} {v : Int32} (h : zFr cs M M1) (hc : c ∈ cs) : zFr cs M (zfl M1 c lo k v) := h.trans (fun c' h' => ⟨by
  have : c' ≠ c := fun e => h' (e ▸ hc)
  simp [zfl, this], rfl⟩)
section ZX21
variable {d : Nat} {M : ZM} {S : Nat → Nat}
theorem s_fill (hd : 1 ≤ d) {a : Nat} (ht : zty a 0 = true) (hl : zln a < 2 ^ 31) (v : Int32) : (zenv zbt d).2.2 237 [.ref a, .int v] M = some (zfl M a 0 (zln a) v) := by
  obtain ⟨d, rfl⟩ : ∃ e, d = e + 1 := ⟨d - 1, by omega⟩
  have key : ∀ i, i ≤ zln a → zL (zenv zbt d) tb_J7_fill_53178 cu_J7_fill_53178 5 [some (.ref a), some (.int v), some (.int (nI i)), some (.int (nI (zln a)))] [] (zfl M a 0 i v) (none, zfl M a 0 (zln a) v) := by
    apply zup
    · apply zL_of; rw [e_J7_fill_53178_5, if_pos (nI_le (Nat.le_refl _) hl)]; rfl
    · intro i hi ih
      apply zL_of; rw [e_J7_fill_53178_5, if_neg (nI_ge hi hl), ht, Bool.true_and, zck_t (zinN hi hl), zcN (by omega)]
      have e := zfl_s M a 0 i v
      rw [Nat.zero_add] at e
      rw [e]
      apply zPo_go
      simpa only [zlit, nI_add] using ih
  apply c_J7_fill_53178
  apply zL_of; rw [e_J7_fill_53178_0, zck_t ht]; apply zPo_go
  have := key 0 (by omega)
  rw [zfl_0] at this
  exact this
/-- the cells that calls with rows change -/
def zRwC : List Nat := [0, 2, 3, 4, 5, 6, 7, 8, 9, 10, 11, 12, 13, 14, 15, 16, 17, 66, 67, 68, 69, 70]
theorem zInv.upR {M' : ZM} (hI : zInv S M) (hf : zFr zRwC M M') (h0 : M'.1 0 9 = M'.1 66 4) (h66 : ∀ k, k ≠ 4 → M'.1 66 k = M.1 66 k) (hR : zRows M') : zInv S M' := by
  obtain ⟨i1, i2, i3, i4, i5, i6, i7, i8, i9, i10⟩ := hI
  have hns : ∀ c, 18 ≤ c → c < 66 → c ∉ zRwC := by
    intro c h1 h2
    simp only [zRwC, List.mem_cons, List.not_mem_nil, or_false]
    omega
  have hns2 : ∀ c, 71 ≤ c → c ∉ zRwC := by
    intro c h1
    simp only [zRwC, List.mem_cons, List.not_mem_nil, or_false]
    omega
  refine ⟨i1, i2.fr hf (fun j hj => hns _ (by omega) (by omega)), i3.fr hf (hns2 _ (by omega)) (hns2 _ (by omega)), i4.fr hf (hns _ (by omega) (by omega)) (hns _ (by omega) (by omega)) (hns _ (by omega) (by omega)), hR, ?_, ?_, ?_, i9.fr hf (hns2 _ (by omega)) (hns2 _ (by omega)) (fun j hj => hns _ (by omega) (by omega)), i10.fr hf (hns2 _ (by omega)) (hns2 _ (by omega)) (fun j hj => hns _ (by omega) (by omega))⟩
  · unfold zTape at i6 ⊢
    rw [(hf 18 (hns _ (by omega) (by omega))).1, (hf 19 (hns _ (by omega) (by omega))).1, (hf 71 (hns2 _ (by omega))).1, h66 6 (by decide)]
    exact i6
  · unfold zMisc at i7 ⊢
    rw [(hf 18 (hns _ (by omega) (by omega))).1, (hf 61 (hns _ (by omega) (by omega))).1, (hf 62 (hns _ (by omega) (by omega))).1, (hf 79 (hns2 _ (by omega))).1, (hf 80 (hns2 _ (by omega))).2, h66 9 (by decide), h66 19 (by decide)]
    exact ⟨h0, i7.2⟩
  · unfold zActs at i8 ⊢
    rw [(hf 49 (hns _ (by omega) (by omega))).1, (hf 50 (hns _ (by omega) (by omega))).1, (hf 51 (hns _ (by omega) (by omega))).1, (hf 52 (hns _ (by omega) (by omega))).1, (hf 75 (hns2 _ (by omega))).1, h66 14 (by decide)]
    exact i8
theorem zRow_st {r : Nat} {v w : Int32} (hr : r < 8) (h : zRow M r) : zRow (zw (zw M 0 9 v) 66 4 w) r := by
  unfold zRow at h ⊢
  simp only [zw_at, show ¬ (2 + r = 66) by omega, show ¬ (2 + r = 0) by omega, show ¬ (10 + r = 66) by omega, show ¬ (10 + r = 0) by omega, show ¬ (68 = 66) by decide, show ¬ (68 = 0) by decide, show ¬ (67 = 66) by decide, show ¬ (67 = 0) by decide, show ¬ (69 = 66) by decide, show ¬ (69 = 0) by decide, false_and, if_false]
  exact h
/-- the status alone changes -/
theorem zInv.st (hI : zInv S M) (v : Int32) : zInv S (zw (zw M 0 9 v) 66 4 v) := by
  refine hI.upR ((zFr.rf.w (by decide)).w (by decide)) ?_ (fun k hk => ?_) (fun r hr => zRow_st hr (hI.rw r hr))
  · rw [zw_at, if_neg (by decide), zw_eq, zw_eq]
  · rw [zw_at, if_neg (fun q => hk q.2), zw_at, if_neg (by simp)]
theorem s_found (hd : 1 ≤ d) (v : Int32) : (zenv zbt d).1 120 [.ref 0, .int v] M = some (-1000010 - v, zw M 0 9 v) := by
  obtain ⟨d, rfl⟩ : ∃ e, d = e + 1 := ⟨d - 1, by omega⟩
  apply c_X7_found
  apply zL_of; rw [e_X7_found_0]; rfl
theorem s_fine (hd : 1 ≤ d) (v : Int32) : (zenv zbt d).1 121 [.ref 0, .int v] M = some (v, zw M 0 9 0) := by
  obtain ⟨d, rfl⟩ : ∃ e, d = e + 1 := ⟨d - 1, by omega⟩
  apply c_X7_fine
  apply zL_of; rw [e_X7_fine_0]; rfl
theorem s_finds (hd : 1 ≤ d) (v : Int32) : (zenv zbt d).1 147 [.ref 66, .int v] M = some (-1000010 - v, zw M 66 4 v) := by
  obtain ⟨d, rfl⟩ : ∃ e, d = e + 1 := ⟨d - 1, by omega⟩
  apply c_X8_finds
  apply zL_of; rw [e_X8_finds_0]; rfl
theorem a_drop (hI : zInv S M) (x : Int32) : zAl 83 152 [.int x] M := by
  intro d hd
  obtain ⟨d, rfl⟩ : ∃ e, d = e + 1 := ⟨d - 1, by omega⟩
  cases hz : zin x 8
  · refine ⟨-1000001, M, M, S, ?_, ?_, hI⟩
    · apply c_X7_drop
      apply zL_of; rw [e_X7_drop_0, s_isRowC (by omega), Option.bind_some]
      dsimp only
      rw [hz, zbi_f (by decide), if_pos rfl]; rfl
    · apply c_X8_drop
      apply zL_of; rw [e_X8_drop_0, s_isRowM (by omega), Option.bind_some]
      dsimp only
      rw [hz, zbi_f (by decide), if_pos rfl]; rfl
  · obtain ⟨r, hr, rfl⟩ := (zin_iff (by decide)).mp hz
    obtain ⟨z1, z2, z3, z4, z5, z6⟩ := zfi4 r hr
    rcases hI.rw r hr with ⟨q1, q2⟩ | ⟨q1, n, l, q2, q3, q4, q5, q6, q7, q8⟩
    · refine ⟨-1000010 - 1, zw M 0 9 1, zw (zw M 0 9 1) 66 4 1, S, ?_, ?_, hI.st 1⟩
      · apply c_X7_drop
        apply zL_of; rw [e_X7_drop_0, s_isRowC (by omega), Option.bind_some]
        dsimp only
        rw [zbi_t hz, if_neg zn10, zck_t hz, zcN (by omega), zel1 r hr, zck_t z1, q1, if_pos rfl, s_found (by omega), Option.bind_some]; rfl
      · apply c_X8_drop
        apply zL_of; rw [e_X8_drop_0, s_isRowM (by omega), Option.bind_some]
        dsimp only
        rw [zbi_t hz, if_neg zn10, zck_t hz, zcN (by omega), show (zw M 0 9 1).1 68 r = -1 by rw [zw_at, if_neg (by simp)]; exact q2, if_neg (by decide), s_finds (by omega), Option.bind_some]; rfl
    · refine ⟨nI n, zw (zw M (2 + r) 1 0) 0 9 0, zw (zw (zw (zw M (2 + r) 1 0) 0 9 0) 66 4 0) 68 r (-1), S, ?_, ?_, ?_⟩
      · apply c_X7_drop
        apply zL_of; rw [e_X7_drop_0, s_isRowC (by omega), Option.bind_some]
        dsimp only
        rw [zbi_t hz, if_neg zn10, zck_t hz, zcN (by omega), zel1 r hr, zck_t z1, q1, if_neg zn10, zck_t hz, zck_t (by rw [z1]; rfl), zck_t hz, zck_t z3, zw_at, if_neg (by simp), q4, s_fine (by omega), Option.bind_some]; rfl
      · apply c_X8_drop
        apply zL_of; rw [e_X8_drop_0, s_isRowM (by omega), Option.bind_some]
        dsimp only
        rw [zbi_t hz, if_neg zn10, zck_t hz, zcN (by omega)]
        have e : (zw (zw M (2 + r) 1 0) 0 9 0).1 68 r = nI n := by
          rw [zw_at, if_neg (by simp), zw_at, if_neg (by omega)]; exact q5
        rw [e, if_pos (nI_pos' (by omega)), zck_t hz, zck_t hz]; rfl
      · have hm : 2 + r ∈ zRwC := by
          simp only [zRwC, List.mem_cons, List.not_mem_nil, or_false]
          omega
        refine hI.upR ((((zFr.rf.w hm).w (by decide)).w (by decide)).w (by decide)) ?_ (fun k hk => ?_) (fun r' hr' => ?_)
        · rw [zw_at, if_neg (by simp), zw_at, if_neg (by simp), zw_eq, zw_at, if_neg (by simp), zw_eq]
        · rw [zw_at, if_neg (by simp), zw_at, if_neg (fun q => hk q.2), zw_at, if_neg (by simp), zw_at, if_neg (by omega)]
        · have hrow := hI.rw r' hr'
          unfold zRow at hrow ⊢
          simp only [zw_at, show ¬ (2 + r' = 66) by omega, show ¬ (2 + r' = 0) by omega, show ¬ (2 + r' = 68) by omega, show ¬ (10 + r' = 66) by omega, show ¬ (10 + r' = 0) by omega, show ¬ (10 + r' = 68) by omega, show ¬ (10 + r' = 2 + r) by omega, show ¬ (68 = 66) by decide, show ¬ (68 = 0) by decide, show ¬ (68 = 2 + r) by omega, show ¬ (67 = 66) by decide, show ¬ (67 = 0) by decide, show ¬ (67 = 68) by decide, show ¬ (67 = 2 + r) by omega, show ¬ (69 = 66) by decide, show ¬ (69 = 0) by decide, show ¬ (69 = 68) by decide, show ¬ (69 = 2 + r) by omega, false_and, if_false]
          by_cases e : r' = r
          · subst e
            left
            exact ⟨by simp, by simp⟩
          · simp only [show ¬ (2 + r' = 2 + r) by omega, e, false_and, and_false, if_false]
            exact hrow
theorem a_feed (hI : zInv S M) (x : Int32) : zAl 84 153 [.int x] M := by
  intro d hd
  obtain ⟨d, rfl⟩ : ∃ e, d = e + 1 := ⟨d - 1, by omega⟩
  have h256 : ((0 : Int32) ≤ x ∧ x ≤ 255) ↔ zin x 256 = true := zgm (n := 256) (by decide)
  obtain ⟨n, hn, t1, t2, t3⟩ := hI.2.2.2.2.2.1
  cases hz : zin x 256
  · refine ⟨-1000001, M, M, S, ?_, ?_, hI⟩
    · apply c_X7_feed
      apply zL_of; rw [e_X7_feed_0]
      by_cases h0 : x < 0
      · rw [if_pos h0]; rfl
      · rw [if_neg h0]
        by_cases h1 : x ≤ 255
        · exfalso
          have := h256.mp ⟨Int32.not_lt.mp h0, h1⟩
          rw [this] at hz; cases hz
        · rw [if_neg h1]; rfl
    · apply c_X8_feed
      apply zL_of; rw [e_X8_feed_0, s_in (by omega), Option.bind_some, zbi_eq h256]
      dsimp only
      rw [hz, zbi_f (by decide), if_pos rfl]; rfl
  · obtain ⟨h1, h2⟩ := h256.mpr hz
    obtain ⟨v, hv, rfl⟩ := (zin_iff (by decide)).mp hz
    by_cases hf : n = 120
    · refine ⟨-1000003, M, M, S, ?_, ?_, hI⟩
      · have ha : (zenv zbt d).1 38 [.ref 18, .int (nI v)] M = some (0, M) := by
          obtain ⟨d, rfl⟩ : ∃ e, d = e + 1 := ⟨d - 1, by omega⟩
          apply c_X3_append
          apply zL_of; rw [e_X3_append_0, t1, hf, if_neg (by decide)]; rfl
        apply c_X7_feed
        apply zL_of; rw [e_X7_feed_0, if_neg (Int32.not_lt.mpr h1), if_pos h2, ha, Option.bind_some, if_pos rfl]; rfl
      · apply c_X8_feed
        apply zL_of; rw [e_X8_feed_0, s_in (by omega), Option.bind_some, zbi_eq h256]
        dsimp only
        rw [hz, zbi_t rfl, if_neg zn10, t2, hf, if_pos (show nI 120 = (120 : Int32) from rfl)]; rfl
    · have hn2 : n < 120 := by omega
      refine ⟨nI (n + 1), zw (zw M 19 n (nI v)) 18 1 (nI (n + 1)), zw (zw (zw (zw M 19 n (nI v)) 18 1 (nI (n + 1))) 71 n (nI v)) 66 6 (nI (n + 1)), S, ?_, ?_, ?_⟩
      · have ha : (zenv zbt d).1 38 [.ref 18, .int (nI v)] M = some (1, zw (zw M 19 n (nI v)) 18 1 (nI (n + 1))) := by
          obtain ⟨d, rfl⟩ : ∃ e, d = e + 1 := ⟨d - 1, by omega⟩
          apply c_X3_append
          apply zL_of; rw [e_X3_append_0, t1, if_pos (show nI n < (120 : Int32) from nI_lt hn2 (by decide)), zck_t (zinN hn2 (by decide)), zcN (by omega), nI_1]; rfl
        apply c_X7_feed
        apply zL_of; rw [e_X7_feed_0, if_neg (Int32.not_lt.mpr h1), if_pos h2, ha, Option.bind_some]
        dsimp only
        rw [if_neg zn10, zw_eq]; rfl
      · have e : (zw (zw M 19 n (nI v)) 18 1 (nI (n + 1))).1 66 6 = nI n := by
          rw [zw_at, if_neg (by simp), zw_at, if_neg (by simp)]; exact t2
        apply c_X8_feed
        apply zL_of; rw [e_X8_feed_0, s_in (by omega), Option.bind_some, zbi_eq h256]
        dsimp only
        rw [hz, zbi_t rfl, if_neg zn10, e, if_neg (show ¬ (nI n = (120 : Int32)) from fun q => hf ((nI_eq (by omega) (by decide)).mp q)), zck_t (zinN hn2 (by decide)), zcN (by omega), nI_1]; rfl
      · obtain ⟨i1, i2, i3, i4, i5, i6, i7, i8, i9, i10⟩ := hI
        have hf2 : zFr [18, 19, 66, 71] M (zw (zw (zw (zw M 19 n (nI v)) 18 1 (nI (n + 1))) 71 n (nI v)) 66 6 (nI (n + 1))) := (((zFr.rf.w (by decide)).w (by decide)).w (by decide)).w (by decide)
        have h66 : ∀ k, k ≠ 6 → (zw (zw (zw (zw M 19 n (nI v)) 18 1 (nI (n + 1))) 71 n (nI v)) 66 6 (nI (n + 1))).1 66 k = M.1 66 k := fun k hk => by
          rw [zw_at, if_neg (fun q => hk q.2), zw_at, if_neg (by simp), zw_at, if_neg (by simp), zw_at, if_neg (by simp)]
        have h18 : ∀ k, k ≠ 1 → (zw (zw (zw (zw M 19 n (nI v)) 18 1 (nI (n + 1))) 71 n (nI v)) 66 6 (nI (n + 1))).1 18 k = M.1 18 k := fun k hk => by
          rw [zw_at, if_neg (by simp), zw_at, if_neg (by simp), zw_at, if_neg (fun q => hk q.2), zw_at, if_neg (by simp)]
        refine ⟨i1, i2.fr hf2 (fun j hj => ?_), i3.fr hf2 (by decide) (by decide), i4.fr hf2 (by decide) (by decide) (by decide), fun r hr => zRow.fr hr (i5 r hr) hf2 ?_ (by decide) (by decide) (by decide), ?_, ?_, ?_, i9.fr hf2 (by decide) (by decide) (fun j hj => ?_), i10.fr hf2 (by decide) (by decide) (fun j hj => ?_)⟩
        · simp; omega
        · intro c h1 h2; simp; omega
        · refine ⟨n + 1, by omega, ?_, ?_, fun i hi => ?_⟩
          · rw [zw_at, if_neg (by simp), zw_at, if_neg (by simp), zw_eq]
          · rw [zw_eq]
          · by_cases e : i = n
            · subst e
              refine ⟨v, by omega, ?_, ?_⟩
              · rw [zw_at, if_neg (by simp), zw_at, if_neg (by simp), zw_at, if_neg (by simp), zw_eq]
              · rw [zw_at, if_neg (by simp), zw_eq]
            · obtain ⟨u, hu, u1, u2⟩ := t3 i (by omega)
              refine ⟨u, hu, ?_, ?_⟩
              · rw [zw_at, if_neg (by simp), zw_at, if_neg (by simp), zw_at, if_neg (by simp), zw_at, if_neg (fun q => e q.2)]; exact u1
              · rw [zw_at, if_neg (by simp), zw_at, if_neg (fun q => e q.2), zw_at, if_neg (by simp), zw_at, if_neg (by simp)]; exact u2
        · unfold zMisc at i7 ⊢
          rw [h66 4 (by decide), h66 9 (by decide), h66 19 (by decide), h18 6 (by decide), (hf2 0 (by decide)).1, (hf2 61 (by decide)).1, (hf2 62 (by decide)).1, (hf2 79 (by decide)).1, (hf2 80 (by decide)).2]
          exact i7
        · unfold zActs at i8 ⊢
          rw [(hf2 49 (by decide)).1, (hf2 50 (by decide)).1, (hf2 51 (by decide)).1, (hf2 52 (by decide)).1, (hf2 75 (by decide)).1, h66 14 (by decide)]
          exact i8
        · simp; omega
        · simp; omega
end ZX21

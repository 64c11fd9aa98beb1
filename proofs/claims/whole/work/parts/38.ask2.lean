/-! ask -/
def zbfI (w k : Nat) : Int32 := if w = 0 then [10, 11, 12, 11, 13, 14].getD k 0 else [20, 21, 24, 22, 23, 23].getD k 0
/-- the class asks of the cell c, kind k, worth w, over o, and has left L -/
def zTr (M0 : ZM) (c k w o : Nat) (L : List Nat) (M : ZM) : Prop := zFr [61, 62] M0 M ∧ M.1 61 2 = nI c ∧ M.1 61 3 = nI k ∧ M.1 61 4 = nI w ∧ M.1 61 5 = nI o ∧ M.1 61 1 = nI L.length ∧ ∀ i b, L[i]? = some b → M.1 62 i = nI b
/-- the reference has left L -/
def zTm (M0 : ZM) (L : List Nat) (M : ZM) : Prop := zFr [66, 79] M0 M ∧ (∀ j, j ≠ 19 → M.1 66 j = M0.1 66 j) ∧ M.1 66 19 = nI L.length ∧ ∀ i b, L[i]? = some b → M.1 79 i = nI b
section ZX26
variable {d : Nat} {M M0 : ZM} {S : Nat → Nat} {c k w o : Nat} {L : List Nat}
theorem s_leave (hd : 1 ≤ d) (h : zTr M0 c k w o L M) (hl : L.length < 16) (b : Nat) : ∃ M', (zenv zbt d).2.2 8 [.ref 61, .int (nI b)] M = some M' ∧ zTr M0 c k w o (L ++ [b]) M' := by
  obtain ⟨d, rfl⟩ : ∃ e, d = e + 1 := ⟨d - 1, by omega⟩
  obtain ⟨h0, h1, h2, h3, h4, h5, h6⟩ := h
  refine ⟨zw (zw M 62 L.length (nI b)) 61 1 (nI (L.length + 1)), ?_, (h0.w (by decide)).w (by decide), ?_, ?_, ?_, ?_, ?_, fun i x hx => ?_⟩
  · apply c_X1_leave
    apply zL_of; rw [e_X1_leave_0, h5, if_neg (show ¬ ((16 : Int32) ≤ nI L.length) from nI_ge hl (by decide)), zck_t (zinN hl (by decide)), zcN (by omega), nI_1]; rfl
  · rw [zw_nk (by decide), zw_nc (by decide)]; exact h1
  · rw [zw_nk (by decide), zw_nc (by decide)]; exact h2
  · rw [zw_nk (by decide), zw_nc (by decide)]; exact h3
  · rw [zw_nk (by decide), zw_nc (by decide)]; exact h4
  · rw [zw_eq, List.length_append]; rfl
  · rw [zw_nc (by decide)]
    by_cases e : i < L.length
    · rw [zw_nk (by omega)]
      rw [List.getElem?_append_left e] at hx
      exact h6 i x hx
    · rw [List.getElem?_append_right (by omega)] at hx
      have : i - L.length = 0 := by
        refine Nat.eq_zero_of_not_pos fun q => ?_
        rw [List.getElem?_eq_none (by simp; omega)] at hx
        cases hx
      rw [this] at hx
      have hx2 : b = x := by simpa using hx
      rw [show i = L.length by omega, zw_eq, hx2]
theorem s_leaves (hd : 1 ≤ d) (h : zTm M0 L M) (hl : L.length < 16) (b : Nat) : ∃ M', (zenv zbt d).2.2 224 [.ref 66, .int (nI b)] M = some M' ∧ zTm M0 (L ++ [b]) M' := by
  obtain ⟨d, rfl⟩ : ∃ e, d = e + 1 := ⟨d - 1, by omega⟩
  obtain ⟨h0, h1, h5, h6⟩ := h
  refine ⟨zw (zw M 79 L.length (nI b)) 66 19 (nI (L.length + 1)), ?_, (h0.w (by decide)).w (by decide), fun j hj => ?_, ?_, fun i x hx => ?_⟩
  · apply c_X8_leaves
    apply zL_of; rw [e_X8_leaves_0, h5, if_neg (show ¬ ((16 : Int32) ≤ nI L.length) from nI_ge hl (by decide)), zck_t (zinN hl (by decide)), zcN (by omega), nI_1]; rfl
  · rw [zw_nk hj, zw_nc (by decide)]; exact h1 j hj
  · rw [zw_eq, List.length_append]; rfl
  · rw [zw_nc (by decide)]
    by_cases e : i < L.length
    · rw [zw_nk (by omega)]
      rw [List.getElem?_append_left e] at hx
      exact h6 i x hx
    · rw [List.getElem?_append_right (by omega)] at hx
      have : i - L.length = 0 := by
        refine Nat.eq_zero_of_not_pos fun q => ?_
        rw [List.getElem?_eq_none (by simp; omega)] at hx
        cases hx
      rw [this] at hx
      have hx2 : b = x := by simpa using hx
      rw [show i = L.length by omega, zw_eq, hx2]
theorem zbt_told : ∀ k, k < 6 → zSIZEB.getD k 0 = [10, 11, 12, 0, 13, 14].getD k 0 ∧ zMARKB.getD k 0 = [20, 21, 24, 22, 23, 0].getD k 0 := by decide
theorem s_told (hd : 1 ≤ d) {w : Nat} (hw : w < 2) (hk : k < 6) : (zenv zbt d).1 6 [.int (nI w), .int (nI k)] M = some (if w = 0 then [10, 11, 12, 0, 13, 14].getD k 0 else [20, 21, 24, 22, 23, 0].getD k 0, M) := by
  obtain ⟨d, rfl⟩ : ∃ e, d = e + 1 := ⟨d - 1, by omega⟩
  apply c_X1_bodyTold
  apply zL_of; rw [e_X1_bodyTold_0, if_neg (nI_pos (by omega)), if_pos (show nI k < (6 : Int32) from nI_lt hk (by decide)), zck_t (zinN hk (by decide)), zcN (by omega), zck_t (zinN hk (by decide)), (zbt_told k hk).1, (zbt_told k hk).2]
  have : w = 0 ∨ w = 1 := by omega
  rcases this with rfl | rfl <;> rfl
theorem s_bodyFor (hd : 2 ≤ d) {u : Nat} (hu : u < 2) (hk : k < 6) (h0 : 0 < k) (hM : M.1 61 3 = nI k) : (zenv zbt d).1 5 [.ref 61, .int (nI u)] M = some (zbfI u k, M) := by
  obtain ⟨d, rfl⟩ : ∃ e, d = e + 1 := ⟨d - 1, by omega⟩
  apply c_X1_bodyFor
  apply zL_of; rw [e_X1_bodyFor_0, hM, s_told (by omega) hu hk, Option.bind_some]; dsimp only; apply zPo_go
  apply zL_of; rw [e_X1_bodyFor_14, if_neg (by decide)]
  have hu2 : u = 0 ∨ u = 1 := by omega
  have hk6 : k = 1 ∨ k = 2 ∨ k = 3 ∨ k = 4 ∨ k = 5 := by omega
  rcases hu2 with rfl | rfl <;> rcases hk6 with rfl | rfl | rfl | rfl | rfl
  · rw [if_neg (by decide)]; rfl
  · rw [if_neg (by decide)]; rfl
  · rw [if_pos (by decide), s_above (by omega) (by decide), Option.bind_some]
    dsimp only
    rw [s_told (by omega) (by decide) (by decide), Option.bind_some]; dsimp only; apply zPo_go
    apply zL_of; rw [e_X1_bodyFor_14, if_neg (by decide), if_neg (by decide)]; rfl
  · rw [if_neg (by decide)]; rfl
  · rw [if_neg (by decide)]; rfl
  · rw [if_neg (by decide)]; rfl
  · rw [if_neg (by decide)]; rfl
  · rw [if_neg (by decide)]; rfl
  · rw [if_neg (by decide)]; rfl
  · rw [if_pos (by decide), s_above (by omega) (by decide), Option.bind_some]
    dsimp only
    rw [s_told (by omega) (by decide) (by decide), Option.bind_some]; dsimp only; apply zPo_go
    apply zL_of; rw [e_X1_bodyFor_14, if_neg (by decide), if_neg (by decide)]; rfl
/-- a body answers v and leaves l -/
def zBd (d : Nat) (n : Int32) (e : Nat) (c k w o : Nat) (v : Int32) (l : List Nat) : Prop := ∀ M0 M L, L.length + l.length ≤ 16 → zTr M0 c k w o L M → ∃ M', (zenv zbt d).1 7 [.ref 61, .int n, .int (nI e)] M = some (v, M') ∧ zTr M0 c k w o (L ++ l) M'
theorem b_10 {e : Nat} (hd : 2 ≤ d) (he : e ≤ 16) : zBd d 10 e c k w o (nI w) [10] := by
  intro M0 M L hl hT
  obtain ⟨d, rfl⟩ : ∃ e, d = e + 1 := ⟨d - 1, by omega⟩
  simp only [List.length_cons, List.length_nil] at hl
  obtain ⟨M1, e1, t1⟩ := s_leave (d := d) (by omega) hT (by omega) 10
  refine ⟨M1, ?_, t1⟩
  apply c_X1_body
  apply zL_of; rw [e_X1_body_0, if_pos (show nI e ≤ (16 : Int32) from nI_le he (by decide)), show (10 : Int32) = nI 10 from rfl, e1, Option.bind_some, if_pos rfl, t1.2.2.2.1]; rfl
theorem b_20 {e : Nat} (hd : 2 ≤ d) (he : e ≤ 16) : zBd d 20 e c k w o (nI c) [20] := by
  intro M0 M L hl hT
  obtain ⟨d, rfl⟩ : ∃ e, d = e + 1 := ⟨d - 1, by omega⟩
  simp only [List.length_cons, List.length_nil] at hl
  obtain ⟨M1, e1, t1⟩ := s_leave (d := d) (by omega) hT (by omega) 20
  refine ⟨M1, ?_, t1⟩
  apply c_X1_body
  apply zL_of; rw [e_X1_body_0, if_pos (show nI e ≤ (16 : Int32) from nI_le he (by decide)), show (20 : Int32) = nI 20 from rfl, e1, Option.bind_some]
  repeat rw [if_neg (by decide)]
  rw [if_pos rfl, t1.2.1]; rfl
theorem b_21 {e : Nat} (hd : 3 ≤ d) (he : e ≤ 12) : zBd d 21 e c k w o (nI c + nI o) [21, 20] := by
  intro M0 M L hl hT
  obtain ⟨d, rfl⟩ : ∃ e, d = e + 1 := ⟨d - 1, by omega⟩
  simp only [List.length_cons, List.length_nil] at hl
  obtain ⟨M1, e1, t1⟩ := s_leave (d := d) (by omega) hT (by omega) 21
  obtain ⟨M2, e2, t2⟩ := b_20 (d := d) (e := e + 1) (c := c) (k := k) (w := w) (o := o) (by omega) (by omega) M0 M1 _ (by simp only [List.length_append, List.length_cons, List.length_nil]; omega) t1
  refine ⟨M2, ?_, by rw [List.append_assoc] at t2; exact t2⟩
  apply c_X1_body
  apply zL_of; rw [e_X1_body_0, if_pos (show nI e ≤ (16 : Int32) from nI_le (show e ≤ 16 by omega) (by decide)), show (21 : Int32) = nI 21 from rfl, e1, Option.bind_some]
  repeat rw [if_neg (by decide)]
  rw [if_pos rfl, nI_1, e2, Option.bind_some]
  dsimp only
  rw [t2.2.2.2.2.1]
  rfl
theorem b_22 {e : Nat} (hd : 4 ≤ d) (he : e ≤ 11) : zBd d 22 e c k w o (nI c + nI o - 1000) [22, 21, 20] := by
  intro M0 M L hl hT
  obtain ⟨d, rfl⟩ : ∃ e, d = e + 1 := ⟨d - 1, by omega⟩
  simp only [List.length_cons, List.length_nil] at hl
  obtain ⟨M1, e1, t1⟩ := s_leave (d := d) (by omega) hT (by omega) 22
  obtain ⟨M2, e2, t2⟩ := b_21 (d := d) (e := e + 1) (c := c) (k := k) (w := w) (o := o) (by omega) (by omega) M0 M1 _ (by simp only [List.length_append, List.length_cons, List.length_nil]; omega) t1
  refine ⟨M2, ?_, by rw [List.append_assoc] at t2; exact t2⟩
  apply c_X1_body
  apply zL_of; rw [e_X1_body_0, if_pos (show nI e ≤ (16 : Int32) from nI_le (show e ≤ 16 by omega) (by decide)), show (22 : Int32) = nI 22 from rfl, e1, Option.bind_some]
  repeat rw [if_neg (by decide)]
  rw [if_pos rfl, nI_1, e2, Option.bind_some]
  rfl
theorem b_24 {e : Nat} (hd : 4 ≤ d) (he : e ≤ 11) : zBd d 24 e c k w o (2 * (nI c + nI o)) [24, 21, 20] := by
  intro M0 M L hl hT
  obtain ⟨d, rfl⟩ : ∃ e, d = e + 1 := ⟨d - 1, by omega⟩
  simp only [List.length_cons, List.length_nil] at hl
  obtain ⟨M1, e1, t1⟩ := s_leave (d := d) (by omega) hT (by omega) 24
  obtain ⟨M2, e2, t2⟩ := b_21 (d := d) (e := e + 1) (c := c) (k := k) (w := w) (o := o) (by omega) (by omega) M0 M1 _ (by simp only [List.length_append, List.length_cons, List.length_nil]; omega) t1
  refine ⟨M2, ?_, by rw [List.append_assoc] at t2; exact t2⟩
  apply c_X1_body
  apply zL_of; rw [e_X1_body_0, if_pos (show nI e ≤ (16 : Int32) from nI_le (show e ≤ 16 by omega) (by decide)), show (24 : Int32) = nI 24 from rfl, e1, Option.bind_some]
  repeat rw [if_neg (by decide)]
  rw [if_pos rfl, nI_1, e2, Option.bind_some]
  rfl
theorem b_13 {e : Nat} (hd : 3 ≤ d) (he : e ≤ 12) : zBd d 13 e c k w o (nI w - 100) [13, 10] := by
  intro M0 M L hl hT
  obtain ⟨d, rfl⟩ : ∃ e, d = e + 1 := ⟨d - 1, by omega⟩
  simp only [List.length_cons, List.length_nil] at hl
  obtain ⟨M1, e1, t1⟩ := s_leave (d := d) (by omega) hT (by omega) 13
  obtain ⟨M2, e2, t2⟩ := b_10 (d := d) (e := e + 1) (c := c) (k := k) (w := w) (o := o) (by omega) (by omega) M0 M1 _ (by simp only [List.length_append, List.length_cons, List.length_nil]; omega) t1
  refine ⟨M2, ?_, by rw [List.append_assoc] at t2; exact t2⟩
  apply c_X1_body
  apply zL_of; rw [e_X1_body_0, if_pos (show nI e ≤ (16 : Int32) from nI_le (show e ≤ 16 by omega) (by decide)), show (13 : Int32) = nI 13 from rfl, e1, Option.bind_some]
  repeat rw [if_neg (by decide)]
  rw [if_pos rfl, nI_1, e2, Option.bind_some]
  rfl
theorem b_14 {e : Nat} (hd : 4 ≤ d) (he : e ≤ 11) : zBd d 14 e c k w o (2 * (nI w - 100)) [14, 13, 10] := by
  intro M0 M L hl hT
  obtain ⟨d, rfl⟩ : ∃ e, d = e + 1 := ⟨d - 1, by omega⟩
  simp only [List.length_cons, List.length_nil] at hl
  obtain ⟨M1, e1, t1⟩ := s_leave (d := d) (by omega) hT (by omega) 14
  obtain ⟨M2, e2, t2⟩ := b_13 (d := d) (e := e + 1) (c := c) (k := k) (w := w) (o := o) (by omega) (by omega) M0 M1 _ (by simp only [List.length_append, List.length_cons, List.length_nil]; omega) t1
  refine ⟨M2, ?_, by rw [List.append_assoc] at t2; exact t2⟩
  apply c_X1_body
  apply zL_of; rw [e_X1_body_0, if_pos (show nI e ≤ (16 : Int32) from nI_le (show e ≤ 16 by omega) (by decide)), show (14 : Int32) = nI 14 from rfl, e1, Option.bind_some]
  repeat rw [if_neg (by decide)]
  rw [if_pos rfl, nI_1, e2, Option.bind_some]
  rfl
def zmv (c k o : Nat) : Int32 := if k = 2 then 2 * (nI c + nI o) else if k = 3 then nI c + nI o - 1000 else nI c + nI o
def zml (k : Nat) : List Nat := if k = 2 then [24, 21, 20] else if k = 3 then [22, 21, 20] else [21, 20]
def zsv (k w : Nat) : Int32 := if k = 5 then 2 * (nI w - 100) else nI w - 100
def zsl (k : Nat) : List Nat := if k = 5 then [14, 13, 10] else [13, 10]
theorem zml_l (k : Nat) : (zml k).length ≤ 3 := by
  unfold zml
  split
  · decide
  · split <;> decide
theorem zsl_l (k : Nat) : (zsl k).length ≤ 3 := by
  unfold zsl
  split <;> decide
theorem b_mark {e : Nat} (hd : 4 ≤ d) (he : e ≤ 10) (hk : k = 1 ∨ k = 2 ∨ k = 3) : zBd d (zbfI 1 k) e c k w o (zmv c k o) (zml k) := by
  rcases hk with rfl | rfl | rfl
  · exact b_21 (by omega) (by omega)
  · exact b_24 (by omega) (by omega)
  · exact b_22 (by omega) (by omega)
theorem b_size {e : Nat} (hd : 4 ≤ d) (he : e ≤ 10) (hk : k = 4 ∨ k = 5) : zBd d (zbfI 0 k) e c k w o (zsv k w) (zsl k) := by
  rcases hk with rfl | rfl
  · exact b_13 (by omega) (by omega)
  · exact b_14 (by omega) (by omega)
theorem b_11 {e : Nat} (hd : 5 ≤ d) (he : e ≤ 9) (hk : k = 1 ∨ k = 2 ∨ k = 3) : zBd d 11 e c k w o (nI w + zmv c k o) (11 :: 10 :: zml k) := by
  intro M0 M L hl hT
  obtain ⟨d, rfl⟩ : ∃ e, d = e + 1 := ⟨d - 1, by omega⟩
  simp only [List.length_cons] at hl
  obtain ⟨M1, e1, t1⟩ := s_leave (d := d) (by omega) hT (by omega) 11
  obtain ⟨M2, e2, t2⟩ := b_10 (d := d) (e := e + 1) (c := c) (k := k) (w := w) (o := o) (by omega) (by omega) M0 M1 _ (by simp only [List.length_append, List.length_cons, List.length_nil]; omega) t1
  obtain ⟨M3, e3, t3⟩ := b_mark (d := d) (e := e + 1) (c := c) (k := k) (w := w) (o := o) (by omega) (by omega) hk M0 M2 _ (by simp only [List.length_append, List.length_cons, List.length_nil]; omega) t2
  refine ⟨M3, ?_, by simpa only [List.append_assoc, List.cons_append, List.nil_append] using t3⟩
  apply c_X1_body
  apply zL_of; rw [e_X1_body_0, if_pos (show nI e ≤ (16 : Int32) from nI_le (show e ≤ 16 by omega) (by decide)), show (11 : Int32) = nI 11 from rfl, e1, Option.bind_some]
  repeat rw [if_neg (by decide)]
  rw [if_pos rfl, nI_1, e2, Option.bind_some]
  dsimp only
  rw [show (1 : Int32) = nI 1 from rfl, s_bodyFor (by omega) (by decide) (by omega) (by omega) t2.2.2.1, Option.bind_some]
  dsimp only
  rw [e3, Option.bind_some]; rfl
theorem b_12 {e : Nat} (hd : 6 ≤ d) (he : e ≤ 8) (hk : k = 1 ∨ k = 2 ∨ k = 3) : zBd d 12 e c k w o (-(nI w + zmv c k o)) (12 :: 11 :: 10 :: zml k) := by
  intro M0 M L hl hT
  obtain ⟨d, rfl⟩ : ∃ e, d = e + 1 := ⟨d - 1, by omega⟩
  simp only [List.length_cons] at hl
  obtain ⟨M1, e1, t1⟩ := s_leave (d := d) (by omega) hT (by omega) 12
  obtain ⟨M2, e2, t2⟩ := b_11 (d := d) (e := e + 1) (c := c) (k := k) (w := w) (o := o) (by omega) (by omega) hk M0 M1 _ (by simp only [List.length_append, List.length_cons, List.length_nil]; omega) t1
  refine ⟨M2, ?_, by simpa only [List.append_assoc, List.cons_append, List.nil_append] using t2⟩
  apply c_X1_body
  apply zL_of; rw [e_X1_body_0, if_pos (show nI e ≤ (16 : Int32) from nI_le (show e ≤ 16 by omega) (by decide)), show (12 : Int32) = nI 12 from rfl, e1, Option.bind_some]
  repeat rw [if_neg (by decide)]
  rw [if_pos rfl, nI_1, e2, Option.bind_some]; rfl
theorem b_23 {e : Nat} (hd : 5 ≤ d) (he : e ≤ 9) (hk : k = 4 ∨ k = 5) : zBd d 23 e c k w o (nI c - zsv k w) (23 :: 20 :: zsl k) := by
  intro M0 M L hl hT
  obtain ⟨d, rfl⟩ : ∃ e, d = e + 1 := ⟨d - 1, by omega⟩
  simp only [List.length_cons] at hl
  obtain ⟨M1, e1, t1⟩ := s_leave (d := d) (by omega) hT (by omega) 23
  obtain ⟨M2, e2, t2⟩ := b_20 (d := d) (e := e + 1) (c := c) (k := k) (w := w) (o := o) (by omega) (by omega) M0 M1 _ (by simp only [List.length_append, List.length_cons, List.length_nil]; omega) t1
  obtain ⟨M3, e3, t3⟩ := b_size (d := d) (e := e + 1) (c := c) (k := k) (w := w) (o := o) (by omega) (by omega) hk M0 M2 _ (by simp only [List.length_append, List.length_cons, List.length_nil]; omega) t2
  refine ⟨M3, ?_, by simpa only [List.append_assoc, List.cons_append, List.nil_append] using t3⟩
  apply c_X1_body
  apply zL_of; rw [e_X1_body_0, if_pos (show nI e ≤ (16 : Int32) from nI_le (show e ≤ 16 by omega) (by decide)), show (23 : Int32) = nI 23 from rfl, e1, Option.bind_some]
  repeat rw [if_neg (by decide)]
  rw [if_pos rfl, nI_1, e2, Option.bind_some]
  dsimp only
  rw [show (0 : Int32) = nI 0 from rfl, s_bodyFor (by omega) (by decide) (by omega) (by omega) t2.2.2.1, Option.bind_some]
  dsimp only
  rw [e3, Option.bind_some]; rfl
/-- what ask answers, and leaves -/
def zav (u c k w o : Nat) : Int32 := if 4 ≤ k then (if u = 0 then zsv k w else nI c - zsv k w) else if u = 1 then zmv c k o else if k = 2 then -(nI w + zmv c k o) else nI w + zmv c k o
def zavl (u k : Nat) : List Nat := if 4 ≤ k then (if u = 0 then zsl k else 23 :: 20 :: zsl k) else if u = 1 then zml k else if k = 2 then 12 :: 11 :: 10 :: zml k else 11 :: 10 :: zml k
theorem zavl_l (u k : Nat) : (zavl u k).length ≤ 6 := by
  have h1 := zml_l k
  have h2 := zsl_l k
  unfold zavl
  split
  · split
    · omega
    · simp only [List.length_cons]; omega
  · split
    · omega
    · split <;> (simp only [List.length_cons]; omega)
theorem b_all {u : Nat} (hd : 6 ≤ d) (hu : u < 2) (h0 : 0 < k) (hk : k < 6) : zBd d (zbfI u k) 0 c k w o (zav u c k w o) (zavl u k) := by
  have hu2 : u = 0 ∨ u = 1 := by omega
  have hk6 : k = 1 ∨ k = 2 ∨ k = 3 ∨ k = 4 ∨ k = 5 := by omega
  rcases hu2 with rfl | rfl <;> rcases hk6 with rfl | rfl | rfl | rfl | rfl
  · exact b_11 (by omega) (by omega) (by omega)
  · exact b_12 (by omega) (by omega) (by omega)
  · exact b_11 (by omega) (by omega) (by omega)
  · exact b_13 (by omega) (by omega)
  · exact b_14 (by omega) (by omega)
  · exact b_21 (by omega) (by omega)
  · exact b_24 (by omega) (by omega)
  · exact b_22 (by omega) (by omega)
  · exact b_23 (by omega) (by omega) (by omega)
  · exact b_23 (by omega) (by omega) (by omega)
end ZX26

/-! ask: the reference; both -/
section ZX27
variable {d : Nat} {M M0 : ZM} {S : Nat → Nat} {c k w o : Nat} {L : List Nat}
theorem zdbl (a : Nat) : (2 : Int32) * nI a = nI a + nI a := by
  rw [zlit 2, pk_mul, nI_add, Nat.two_mul]
theorem zdbl2 : ∀ w, w < 10 → (2 : Int32) * (nI w - 100) = (nI w - 100) + (nI w - 100) := by decide
theorem zTm.s (h : zTm M0 L M) (hM : zMod S M0) {j : Nat} (hj : j < 41) : M.1 72 j = nI (S j) := by
  rw [(h.1 72 (by decide)).1]; exact hM.1 j hj
theorem s_markLow (hd : 2 ≤ d) (h : zTm M0 L M) (hl : L.length ≤ 13) (hM : zMod S M0) (hc : c < 10) (hk : S (3 + c) = 1 ∨ S (3 + c) = 2 ∨ S (3 + c) = 3) : ∃ M', (zenv zbt d).1 225 [.ref 66, .int (nI c)] M = some (zmv c (S (3 + c)) (S 23), M') ∧ zTm M0 (L ++ zml (S (3 + c))) M' := by
  obtain ⟨d, rfl⟩ : ∃ e, d = e + 1 := ⟨d - 1, by omega⟩
  have e3 : (3 : Int32) + nI c = nI (3 + c) := nI_add 3 c
  have hs := h.s hM (show 3 + c < 41 by omega)
  rcases hk with hk | hk | hk
  · obtain ⟨M1, e1, t1⟩ : ∃ M', (zenv zbt d).2.2 224 [.ref 66, .int 21] M = some M' ∧ zTm M0 (L ++ [21]) M' := s_leaves (by omega) h (by omega) 21
    obtain ⟨M2, e2, t2⟩ : ∃ M', (zenv zbt d).2.2 224 [.ref 66, .int 20] M1 = some M' ∧ zTm M0 (L ++ [21] ++ [20]) M' := s_leaves (by omega) t1 (by simp; omega) 20
    refine ⟨M2, ?_, by rw [hk]; simp only [List.append_assoc, List.cons_append, List.nil_append] at t2; exact t2⟩
    apply c_X8_markLow
    apply zL_of; rw [e_X8_markLow_0, e3, zck_t (zinN (by omega) (by decide)), zcN (by omega), hs, hk, if_neg (by decide), if_neg (by decide), e1, Option.bind_some, e2, Option.bind_some, if_neg (by decide), if_neg (by decide), t2.s hM (by decide)]; rfl
  · obtain ⟨M0', e0, t0⟩ : ∃ M', (zenv zbt d).2.2 224 [.ref 66, .int 24] M = some M' ∧ zTm M0 (L ++ [24]) M' := s_leaves (by omega) h (by omega) 24
    obtain ⟨M1, e1, t1⟩ : ∃ M', (zenv zbt d).2.2 224 [.ref 66, .int 21] M0' = some M' ∧ zTm M0 (L ++ [24] ++ [21]) M' := s_leaves (by omega) t0 (by simp; omega) 21
    obtain ⟨M2, e2, t2⟩ : ∃ M', (zenv zbt d).2.2 224 [.ref 66, .int 20] M1 = some M' ∧ zTm M0 (L ++ [24] ++ [21] ++ [20]) M' := s_leaves (by omega) t1 (by simp; omega) 20
    refine ⟨M2, ?_, by rw [hk]; simp only [List.append_assoc, List.cons_append, List.nil_append] at t2; exact t2⟩
    have ez : zmv c 2 (S 23) = nI c + nI (S 23) + (nI c + nI (S 23)) := by
      show (2 : Int32) * (nI c + nI (S 23)) = _
      rw [nI_add, zdbl]
    apply c_X8_markLow
    apply zL_of; rw [e_X8_markLow_0, e3, zck_t (zinN (by omega) (by decide)), zcN (by omega), hs, hk, if_pos (by decide), e0, Option.bind_some, e1, Option.bind_some, e2, Option.bind_some, if_pos (by decide), t2.s hM (by decide), ez]; rfl
  · obtain ⟨M0', e0, t0⟩ : ∃ M', (zenv zbt d).2.2 224 [.ref 66, .int 22] M = some M' ∧ zTm M0 (L ++ [22]) M' := s_leaves (by omega) h (by omega) 22
    obtain ⟨M1, e1, t1⟩ : ∃ M', (zenv zbt d).2.2 224 [.ref 66, .int 21] M0' = some M' ∧ zTm M0 (L ++ [22] ++ [21]) M' := s_leaves (by omega) t0 (by simp; omega) 21
    obtain ⟨M2, e2, t2⟩ : ∃ M', (zenv zbt d).2.2 224 [.ref 66, .int 20] M1 = some M' ∧ zTm M0 (L ++ [22] ++ [21] ++ [20]) M' := s_leaves (by omega) t1 (by simp; omega) 20
    refine ⟨M2, ?_, by rw [hk]; simp only [List.append_assoc, List.cons_append, List.nil_append] at t2; exact t2⟩
    apply c_X8_markLow
    apply zL_of; rw [e_X8_markLow_0, e3, zck_t (zinN (by omega) (by decide)), zcN (by omega), hs, hk, if_neg (by decide), if_pos (by decide), e0, Option.bind_some, e1, Option.bind_some, e2, Option.bind_some, if_neg (by decide), if_pos (by decide), t2.s hM (by decide)]; rfl
theorem s_sizeHigh (hd : 2 ≤ d) (h : zTm M0 L M) (hl : L.length ≤ 13) (hM : zMod S M0) (hc : c < 10) (hw : S (31 + c) ≤ 9) (hk : S (3 + c) = 4 ∨ S (3 + c) = 5) : ∃ M', (zenv zbt d).1 226 [.ref 66, .int (nI c)] M = some (zsv (S (3 + c)) (S (31 + c)), M') ∧ zTm M0 (L ++ zsl (S (3 + c))) M' := by
  obtain ⟨d, rfl⟩ : ∃ e, d = e + 1 := ⟨d - 1, by omega⟩
  have e3 : (3 : Int32) + nI c = nI (3 + c) := nI_add 3 c
  have e31 : (31 : Int32) + nI c = nI (31 + c) := nI_add 31 c
  have hs := h.s hM (show 3 + c < 41 by omega)
  rcases hk with hk | hk
  · obtain ⟨M1, e1, t1⟩ : ∃ M', (zenv zbt d).2.2 224 [.ref 66, .int 13] M = some M' ∧ zTm M0 (L ++ [13]) M' := s_leaves (by omega) h (by omega) 13
    obtain ⟨M2, e2, t2⟩ : ∃ M', (zenv zbt d).2.2 224 [.ref 66, .int 10] M1 = some M' ∧ zTm M0 (L ++ [13] ++ [10]) M' := s_leaves (by omega) t1 (by simp; omega) 10
    refine ⟨M2, ?_, by rw [hk]; simp only [List.append_assoc, List.cons_append, List.nil_append] at t2; exact t2⟩
    apply c_X8_sizeHigh
    apply zL_of; rw [e_X8_sizeHigh_0, e3, e31, zck_t (zinN (by omega) (by decide)), zcN (by omega), zcN (by omega), hs, hk, if_neg (by decide), if_pos (by decide), e1, Option.bind_some, e2, Option.bind_some, zck_t (zinN (by omega) (by decide)), if_pos (by decide), t2.s hM (by omega)]; rfl
  · obtain ⟨M0', e0, t0⟩ : ∃ M', (zenv zbt d).2.2 224 [.ref 66, .int 14] M = some M' ∧ zTm M0 (L ++ [14]) M' := s_leaves (by omega) h (by omega) 14
    obtain ⟨M1, e1, t1⟩ : ∃ M', (zenv zbt d).2.2 224 [.ref 66, .int 13] M0' = some M' ∧ zTm M0 (L ++ [14] ++ [13]) M' := s_leaves (by omega) t0 (by simp; omega) 13
    obtain ⟨M2, e2, t2⟩ : ∃ M', (zenv zbt d).2.2 224 [.ref 66, .int 10] M1 = some M' ∧ zTm M0 (L ++ [14] ++ [13] ++ [10]) M' := s_leaves (by omega) t1 (by simp; omega) 10
    refine ⟨M2, ?_, by rw [hk]; simp only [List.append_assoc, List.cons_append, List.nil_append] at t2; exact t2⟩
    have ez : zsv 5 (S (31 + c)) = nI (S (31 + c)) - 100 + (nI (S (31 + c)) - 100) := zdbl2 _ (by omega)
    apply c_X8_sizeHigh
    apply zL_of; rw [e_X8_sizeHigh_0, e3, e31, zck_t (zinN (by omega) (by decide)), zcN (by omega), zcN (by omega), hs, hk, if_pos (by decide), if_neg zn10, e0, Option.bind_some, e1, Option.bind_some, e2, Option.bind_some, zck_t (zinN (by omega) (by decide)), if_neg zn10, t2.s hM (by omega), ez]; rfl
theorem s_isCellN (hd : 2 ≤ d) (hW : zwf S) (hM : zMod S M) (x : Int32) : (zenv zbt d).1 169 [.ref 66, .int x] M = some (zbi (zin x (S 0) = true), M) := by
  obtain ⟨d, rfl⟩ : ∃ e, d = e + 1 := ⟨d - 1, by omega⟩
  have hn := hW.n
  apply c_X8_isCell
  apply zL_of; rw [e_X8_isCell_0, hM.1 0 (by decide), s_in (by omega), Option.bind_some]
  dsimp only
  rw [zck_t zbi_01, zbi_eq (zgm (show S 0 < 2 ^ 30 by omega))]; rfl
theorem s_askM (hd : 3 ≤ d) (hW : zwf S) (hM : zMod S M) {u : Nat} (hu : u < 2) (hc : c < S 0) : ∃ M', (zenv zbt d).1 227 [.ref 66, .int (nI c), .int (nI u)] M = some (zav u c (S (3 + c)) (S (31 + c)) (S 23), M') ∧ zTm M (zavl u (S (3 + c))) M' := by
  obtain ⟨d, rfl⟩ : ∃ e, d = e + 1 := ⟨d - 1, by omega⟩
  have hn := hW.n
  obtain ⟨k1, k2, k3⟩ := hW.2.2.2.1 c hc
  have e3 : (3 : Int32) + nI c = nI (3 + c) := nI_add 3 c
  have e31 : (31 : Int32) + nI c = nI (31 + c) := nI_add 31 c
  have hs := hM.1 (3 + c) (by omega)
  have hz : zin (nI c) (S 0) = true := zinN hc (by omega)
  have hz2 : zin (nI u) 2 = true := zinN hu (by decide)
  have t0 : zTm M [] (zw M 66 19 0) := ⟨zFr.rf.w (by decide), fun j hj => zw_nk hj, zw_eq _ _ _ _, fun i b hb => by simp at hb⟩
  have key : ∀ R, zPo (zenv zbt d) tb_X8_ask cu_X8_ask (zck (zin (nI (3 + c)) 41) (if nI (S (3 + c)) < 4 then (if nI u = 1 then (((zenv zbt d).1 225 [.ref 66, .int (nI c)] (zw M 66 19 0)).bind fun q10 => some (.inl (some (.int q10.1), q10.2))) else (if nI (S (3 + c)) = 2 then (((zenv zbt d).2.2 224 [.ref 66, .int 12] (zw M 66 19 0)).bind fun q6 => ((zenv zbt d).2.2 224 [.ref 66, .int 11] q6).bind fun q7 => ((zenv zbt d).2.2 224 [.ref 66, .int 10] q7).bind fun q8 => zck (zin (nI (31 + c)) 41) (((zenv zbt d).1 225 [.ref 66, .int (nI c)] q8).bind fun q9 => some (.inl (some (.int (-((q8.1 72 (31 + c)) + q9.1))), q9.2)))) else (((zenv zbt d).2.2 224 [.ref 66, .int 11] (zw M 66 19 0)).bind fun q3 => ((zenv zbt d).2.2 224 [.ref 66, .int 10] q3).bind fun q4 => zck (zin (nI (31 + c)) 41) (((zenv zbt d).1 225 [.ref 66, .int (nI c)] q4).bind fun q5 => some (.inl (some (.int ((q4.1 72 (31 + c)) + q5.1)), q5.2)))))) else (if nI u = 0 then (((zenv zbt d).1 226 [.ref 66, .int (nI c)] (zw M 66 19 0)).bind fun q25 => some (.inl (some (.int q25.1), q25.2))) else (((zenv zbt d).2.2 224 [.ref 66, .int 23] (zw M 66 19 0)).bind fun q22 => ((zenv zbt d).2.2 224 [.ref 66, .int 20] q22).bind fun q23 => ((zenv zbt d).1 226 [.ref 66, .int (nI c)] q23).bind fun q24 => some (.inl (some (.int (nI c - q24.1)), q24.2)))))) R → zPo (zenv zbt d) tb_X8_ask cu_X8_ask (zrun (zenv zbt d) tb_X8_ask cu_X8_ask 2000 [] 0 [some (.ref 66), some (.int (nI c)), some (.int (nI u)), none, none] [] M) R := by
    intro R hR
    rw [e_X8_ask_0, s_isCellN (by omega) hW hM, Option.bind_some]
    dsimp only
    rw [zbi_t hz, if_neg zn10, s_in (by omega), Option.bind_some, zbi_eq zgm2]
    dsimp only
    rw [zbi_t hz2, if_neg zn10, e3, e31, zcN (show 3 + c < 2 ^ 31 by omega), zcN (show 31 + c < 2 ^ 31 by omega), hs]
    have hu2 : u = 0 ∨ u = 1 := by omega
    have hk6 : S (3 + c) = 1 ∨ S (3 + c) = 2 ∨ S (3 + c) = 3 ∨ S (3 + c) = 4 ∨ S (3 + c) = 5 := by omega
    rcases hu2 with rfl | rfl <;> rcases hk6 with hk | hk | hk | hk | hk <;> rw [hk] at hR ⊢ <;> exact hR
  suffices hh : ∃ M', zPo (zenv zbt d) tb_X8_ask cu_X8_ask (zck (zin (nI (3 + c)) 41) (if nI (S (3 + c)) < 4 then (if nI u = 1 then (((zenv zbt d).1 225 [.ref 66, .int (nI c)] (zw M 66 19 0)).bind fun q10 => some (.inl (some (.int q10.1), q10.2))) else (if nI (S (3 + c)) = 2 then (((zenv zbt d).2.2 224 [.ref 66, .int 12] (zw M 66 19 0)).bind fun q6 => ((zenv zbt d).2.2 224 [.ref 66, .int 11] q6).bind fun q7 => ((zenv zbt d).2.2 224 [.ref 66, .int 10] q7).bind fun q8 => zck (zin (nI (31 + c)) 41) (((zenv zbt d).1 225 [.ref 66, .int (nI c)] q8).bind fun q9 => some (.inl (some (.int (-((q8.1 72 (31 + c)) + q9.1))), q9.2)))) else (((zenv zbt d).2.2 224 [.ref 66, .int 11] (zw M 66 19 0)).bind fun q3 => ((zenv zbt d).2.2 224 [.ref 66, .int 10] q3).bind fun q4 => zck (zin (nI (31 + c)) 41) (((zenv zbt d).1 225 [.ref 66, .int (nI c)] q4).bind fun q5 => some (.inl (some (.int ((q4.1 72 (31 + c)) + q5.1)), q5.2)))))) else (if nI u = 0 then (((zenv zbt d).1 226 [.ref 66, .int (nI c)] (zw M 66 19 0)).bind fun q25 => some (.inl (some (.int q25.1), q25.2))) else (((zenv zbt d).2.2 224 [.ref 66, .int 23] (zw M 66 19 0)).bind fun q22 => ((zenv zbt d).2.2 224 [.ref 66, .int 20] q22).bind fun q23 => ((zenv zbt d).1 226 [.ref 66, .int (nI c)] q23).bind fun q24 => some (.inl (some (.int (nI c - q24.1)), q24.2)))))) (some (.int (zav u c (S (3 + c)) (S (31 + c)) (S 23))), M') ∧ zTm M (zavl u (S (3 + c))) M' by
    obtain ⟨M', h1, h2⟩ := hh
    exact ⟨M', c_X8_ask (zL_of (key _ h1)), h2⟩
  clear key
  rw [zck_t (zinN (by omega) (by decide))]
  have h31 := zinN (show 31 + c < 41 by omega) (show 41 < 2 ^ 31 by decide)
  by_cases h4 : 4 ≤ S (3 + c)
  · rw [if_neg (show ¬ (nI (S (3 + c)) < (4 : Int32)) from nI_nlt h4 (by omega))]
    unfold zav zavl
    rw [if_pos h4, if_pos h4]
    by_cases u0 : u = 0
    · obtain ⟨M1, e1, t1⟩ := s_sizeHigh (d := d) (by omega) t0 (by simp) hM (by omega) k3 (show S (3 + c) = 4 ∨ S (3 + c) = 5 by omega)
      rw [if_pos (by rw [u0]; rfl), if_pos u0, if_pos u0, e1, Option.bind_some]
      exact ⟨M1, rfl, t1⟩
    · obtain ⟨M1, e1, t1⟩ : ∃ M', (zenv zbt d).2.2 224 [.ref 66, .int 23] (zw M 66 19 0) = some M' ∧ zTm M ([] ++ [23]) M' := s_leaves (by omega) t0 (by simp) 23
      obtain ⟨M2, e2, t2⟩ : ∃ M', (zenv zbt d).2.2 224 [.ref 66, .int 20] M1 = some M' ∧ zTm M ([] ++ [23] ++ [20]) M' := s_leaves (by omega) t1 (by simp) 20
      obtain ⟨M3, e3, t3⟩ := s_sizeHigh (d := d) (by omega) t2 (by simp) hM (by omega) k3 (show S (3 + c) = 4 ∨ S (3 + c) = 5 by omega)
      rw [if_neg (nI_ne0 (by omega) (by omega)), if_neg u0, if_neg u0, e1, Option.bind_some, e2, Option.bind_some, e3, Option.bind_some]
      exact ⟨M3, rfl, t3⟩
  · have hk3 : S (3 + c) = 1 ∨ S (3 + c) = 2 ∨ S (3 + c) = 3 := by omega
    rw [if_pos (show nI (S (3 + c)) < (4 : Int32) from nI_lt (show S (3 + c) < 4 by omega) (by decide))]
    unfold zav zavl
    rw [if_neg h4, if_neg h4]
    by_cases u1 : u = 1
    · obtain ⟨M1, e1, t1⟩ := s_markLow (d := d) (by omega) t0 (by simp) hM (by omega) hk3
      rw [if_pos (by rw [u1]; rfl), if_pos u1, if_pos u1, e1, Option.bind_some]
      exact ⟨M1, rfl, t1⟩
    · rw [if_neg (show ¬ (nI u = (1 : Int32)) from fun q => u1 ((nI_eq (by omega) (by decide)).mp q)), if_neg u1, if_neg u1]
      by_cases q2 : S (3 + c) = 2
      · obtain ⟨M1, e1, t1⟩ : ∃ M', (zenv zbt d).2.2 224 [.ref 66, .int 12] (zw M 66 19 0) = some M' ∧ zTm M ([] ++ [12]) M' := s_leaves (by omega) t0 (by simp) 12
        obtain ⟨M2, e2, t2⟩ : ∃ M', (zenv zbt d).2.2 224 [.ref 66, .int 11] M1 = some M' ∧ zTm M ([] ++ [12] ++ [11]) M' := s_leaves (by omega) t1 (by simp) 11
        obtain ⟨M3, e3, t3⟩ : ∃ M', (zenv zbt d).2.2 224 [.ref 66, .int 10] M2 = some M' ∧ zTm M ([] ++ [12] ++ [11] ++ [10]) M' := s_leaves (by omega) t2 (by simp) 10
        obtain ⟨M4, e4, t4⟩ := s_markLow (d := d) (by omega) t3 (by simp) hM (by omega) hk3
        rw [if_pos (by rw [q2]; rfl), if_pos q2, if_pos q2, e1, Option.bind_some, e2, Option.bind_some, e3, Option.bind_some, zck_t h31, e4, Option.bind_some, t3.s hM (by omega)]
        exact ⟨M4, rfl, t4⟩
      · obtain ⟨M2, e2, t2⟩ : ∃ M', (zenv zbt d).2.2 224 [.ref 66, .int 11] (zw M 66 19 0) = some M' ∧ zTm M ([] ++ [11]) M' := s_leaves (by omega) t0 (by simp) 11
        obtain ⟨M3, e3, t3⟩ : ∃ M', (zenv zbt d).2.2 224 [.ref 66, .int 10] M2 = some M' ∧ zTm M ([] ++ [11] ++ [10]) M' := s_leaves (by omega) t2 (by simp) 10
        obtain ⟨M4, e4, t4⟩ := s_markLow (d := d) (by omega) t3 (by simp) hM (by omega) hk3
        rw [if_neg (show ¬ (nI (S (3 + c)) = (2 : Int32)) from fun q => q2 ((nI_eq (by omega) (by decide)).mp q)), if_neg q2, if_neg q2, e2, Option.bind_some, e3, Option.bind_some, zck_t h31, e4, Option.bind_some, t3.s hM (by omega)]
        exact ⟨M4, rfl, t4⟩
theorem a_ask (hI : zInv S M) (x y : Int32) : zAl 116 227 [.int x, .int y] M := by
  intro d hd
  obtain ⟨d, rfl⟩ : ∃ e, d = e + 1 := ⟨d - 1, by omega⟩
  have hn := hI.wf.n
  cases hz : zin x (S 0)
  · refine ⟨-1000001, M, M, S, ?_, ?_, hI⟩
    · apply c_X7_ask
      apply zL_of; rw [e_X7_ask_0, s_isCellC (by omega) hI, Option.bind_some]
      dsimp only
      rw [hz, zbi_f (by decide), if_pos rfl]; rfl
    · apply c_X8_ask
      apply zL_of; rw [e_X8_ask_0, s_isCellM (by omega) hI, Option.bind_some]
      dsimp only
      rw [hz, zbi_f (by decide), if_pos rfl]; rfl
  cases hy : zin y 2
  · refine ⟨-1000001, M, M, S, ?_, ?_, hI⟩
    · apply c_X7_ask
      apply zL_of; rw [e_X7_ask_0, s_isCellC (by omega) hI, Option.bind_some]
      dsimp only
      rw [zbi_t hz, if_neg zn10, s_isEitherC (by omega), Option.bind_some]
      dsimp only
      rw [hy, zbi_f (by decide), if_pos rfl]; rfl
    · apply c_X8_ask
      apply zL_of; rw [e_X8_ask_0, s_isCellM (by omega) hI, Option.bind_some]
      dsimp only
      rw [zbi_t hz, if_neg zn10, s_in (by omega), Option.bind_some, zbi_eq zgm2]
      dsimp only
      rw [hy, zbi_f (by decide), if_pos rfl]; rfl
  obtain ⟨c, hc, rfl⟩ := (zin_iff (by omega)).mp hz
  obtain ⟨u, hu, rfl⟩ := (zin_iff (by decide)).mp hy
  obtain ⟨k1, k2, k3⟩ := hI.wf.2.2.2.1 c hc
  have hsh := hI.sh.2.2.2.2.2.2.2.2.1 c hc
  have hal := zavl_l u (S (3 + c))
  obtain ⟨d, rfl⟩ : ∃ e, d = e + 1 := ⟨d - 1, by omega⟩
  have t0 : zTr M c (S (3 + c)) (S (31 + c)) (S 23) [] (zw (zw (zw (zw (zw M 61 2 (nI c)) 61 3 (nI (S (3 + c)))) 61 4 (nI (S (31 + c)))) 61 5 (nI (S 23))) 61 1 0) := by
    refine ⟨((((zFr.rf.w (by decide)).w (by decide)).w (by decide)).w (by decide)).w (by decide), ?_, ?_, ?_, ?_, zw_eq _ _ _ _, fun i b hb => by simp at hb⟩ <;> simp (disch := decide) only [zw_nk, zw_eq]
  obtain ⟨M1, e1, t1⟩ := b_all (d := d) (u := u) (by omega) hu (by omega) (by omega) M _ [] (by simp; omega) t0
  have f1 : zFr [61, 62] M M1 := t1.1
  have hmd : zMod S M1 := hI.md.fr f1 (by decide) (by decide)
  have hans : (zenv zbt (d + 1)).1 4 [.ref 61, .ref 20, .int (nI c), .int (nI u)] M = some (zav u c (S (3 + c)) (S (31 + c)) (S 23), M1) := by
    apply c_X1_answer
    apply zL_of; rw [e_X1_answer_0 _ _ _ (Or.inl rfl), zck_t (zinN (by omega) (by decide)), zck_t (zinN (by omega) (by decide)), zcN (by omega), hsh.2.1, hsh.2.2, hI.sh.2.2.2.1, s_bodyFor (by omega) hu (by omega) (by omega) t0.2.2.1, Option.bind_some]
    dsimp only
    rw [show (0 : Int32) = nI 0 from rfl] at e1 ⊢
    rw [e1, Option.bind_some]; rfl
  obtain ⟨M2, e2, t2⟩ := s_askM (d := d + 1 + 1) (by omega) hI.wf hmd hu hc
  refine ⟨_, M1, M2, S, ?_, e2, ?_⟩
  · apply c_X7_ask
    apply zL_of; rw [e_X7_ask_0, s_isCellC (by omega) hI, Option.bind_some]
    dsimp only
    rw [zbi_t hz, if_neg zn10, s_isEitherC (by omega), Option.bind_some]
    dsimp only
    rw [zbi_t hy, if_neg zn10, hans, Option.bind_some]; rfl
  · have f2 : zFr [61, 62, 66, 79] M M2 := (f1.mono (by simp)).trans (t2.1.mono (by simp))
    have h66 : ∀ j, j ≠ 19 → M2.1 66 j = M.1 66 j := fun j hj => by rw [t2.2.1 j hj, (f1 66 (by decide)).1]
    obtain ⟨i1, i2, i3, i4, i5, i6, i7, i8, i9, i10⟩ := hI
    refine ⟨i1, i2.fr f2 (fun j hj => by simp; omega), i3.fr f2 (by decide) (by decide), i4.fr f2 (by decide) (by decide) (by decide), fun r hr => zRow.fr hr (i5 r hr) f2 (fun c h1 h2 => by simp; omega) (by decide) (by decide) (by decide), ?_, ⟨?_, ?_, ⟨(zavl u (S (3 + c))).length, by omega, ?_, t2.2.2.1, fun i hi => ?_⟩, ?_⟩, ?_, i9.fr f2 (by decide) (by decide) (fun j hj => by simp; omega), i10.fr f2 (by decide) (by decide) (fun j hj => by simp; omega)⟩
    · unfold zTape at i6 ⊢
      rw [(f2 18 (by decide)).1, (f2 19 (by decide)).1, (f2 71 (by decide)).1, h66 6 (by decide)]
      exact i6
    · rw [(f2 0 (by decide)).1, h66 4 (by decide)]; exact i7.1
    · rw [(f2 18 (by decide)).1, h66 9 (by decide)]; exact i7.2.1
    · rw [(t2.1 61 (by decide)).1, t1.2.2.2.2.2.1]; rfl
    · obtain ⟨b, hb⟩ : ∃ b, (zavl u (S (3 + c)))[i]? = some b := ⟨_, List.getElem?_eq_getElem hi⟩
      rw [t2.2.2.2 i b hb, (t2.1 62 (by decide)).1, t1.2.2.2.2.2.2 i b hb]
    · rw [(f2 80 (by decide)).2]; exact i7.2.2.2
    · unfold zActs at i8 ⊢
      rw [(f2 49 (by decide)).1, (f2 50 (by decide)).1, (f2 51 (by decide)).1, (f2 52 (by decide)).1, (f2 75 (by decide)).1, h66 14 (by decide)]
      exact i8
end ZX27

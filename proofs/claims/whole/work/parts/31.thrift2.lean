section ZX18
variable {d : Nat} {M : ZM} {S : Nat → Nat} {b : Nat}
theorem a_thrift (hI : zInv S M) (x y : Int32) : zAl 102 203 [.int x, .int y] M := by
  have hm := hI.wf.m
  have hp := zpow10 hI.wf.n
  refine zAl.of hI (r := if zin x (S 2) then (if zin y 2 then (if S (26 + x.toNatClampNeg) = 0 then (if zchp S x.toNatClampNeg = 0 then -1000000 else if y = 0 then nI (zchp S x.toNatClampNeg) else nI (zpay S (zchp S x.toNatClampNeg))) else -1000002) else -1000001) else -1000001) (fun d hd => ?_) (fun d M hd hI => ?_)
  · obtain ⟨d, rfl⟩ : ∃ e, d = e + 1 := ⟨d - 1, by omega⟩
    cases hz : zin x (S 2)
    · refine ⟨M, ?_, zFr.rf⟩
      apply c_X7_thrift
      apply zL_of; rw [e_X7_thrift_0, s_isCustC (by omega) hI, Option.bind_some]
      dsimp only
      rw [hz, zbi_f (by decide), if_pos rfl]; rfl
    · obtain ⟨j, hj, rfl⟩ := (zin_iff (by omega)).mp hz
      rw [zcN (by omega)]
      cases hy : zin y 2
      · refine ⟨M, ?_, zFr.rf⟩
        apply c_X7_thrift
        apply zL_of; rw [e_X7_thrift_0, s_isCustC (by omega) hI, Option.bind_some]
        dsimp only
        rw [hz, zbi_t rfl, if_neg zn10, s_isEitherC (by omega), Option.bind_some]
        dsimp only
        rw [hy, zbi_f (by decide), if_pos rfl]; rfl
      · by_cases h0 : S (26 + j) = 0
        · obtain ⟨M1, e1, f1, p1⟩ := s_weigh (d := d) (by omega) (Or.inl rfl) hI.wf hI.sh hI.fi
          have hI1 := hI.fr (f1.mono (by decide))
          have hlt := zchp_lt (S := S) (c := j)
          refine ⟨M1, ?_, f1.mono (by decide)⟩
          apply c_X7_thrift
          apply zL_of; rw [e_X7_thrift_0, s_isCustC (by omega) hI, Option.bind_some]
          dsimp only
          rw [hz, zbi_t rfl, if_neg zn10, s_isEitherC (by omega), Option.bind_some]
          dsimp only
          rw [hy, zbi_t rfl, if_neg zn10, s_isServed (by omega) (Or.inl rfl) hI.wf hI.sh hj, Option.bind_some]
          dsimp only
          rw [zbi_f (fun q => q h0), if_pos rfl, e1, Option.bind_some, s_cheapC (by omega) (Or.inl rfl) hI.wf hI1.sh hI1.fi p1 hj, Option.bind_some]
          dsimp only
          rw [if_pos rfl, if_pos rfl, if_pos h0]
          by_cases hb0 : zchp S j = 0
          · rw [if_pos (show nI (zchp S j) = 0 by rw [hb0]; rfl), if_pos hb0]; rfl
          · rw [if_neg (nI_ne0 (by omega) (by omega)), if_neg hb0, s_paysOf (by omega) (Or.inl rfl) hI.wf hI1.sh (by omega), Option.bind_some]
            by_cases hy0 : y = 0
            · rw [if_pos hy0, if_pos hy0]; rfl
            · rw [if_neg hy0, if_neg hy0]; rfl
        · refine ⟨M, ?_, zFr.rf⟩
          apply c_X7_thrift
          apply zL_of; rw [e_X7_thrift_0, s_isCustC (by omega) hI, Option.bind_some]
          dsimp only
          rw [hz, zbi_t rfl, if_neg zn10, s_isEitherC (by omega), Option.bind_some]
          dsimp only
          rw [hy, zbi_t rfl, if_neg zn10, s_isServed (by omega) (Or.inl rfl) hI.wf hI.sh hj, Option.bind_some]
          dsimp only
          rw [zbi_t h0, if_neg zn10, if_neg h0]; rfl
  · obtain ⟨d, rfl⟩ : ∃ e, d = e + 1 := ⟨d - 1, by omega⟩
    cases hz : zin x (S 2)
    · refine ⟨M, ?_, zFr.rf⟩
      apply c_X8_thrift
      apply zL_of; rw [e_X8_thrift_0, s_isCustM (by omega) hI, Option.bind_some]
      dsimp only
      rw [hz, zbi_f (by decide), if_pos rfl]; rfl
    · obtain ⟨j, hj, rfl⟩ := (zin_iff (by omega)).mp hz
      have hpc := hI.wf.pc (c := j) (by omega)
      have e3 : (26 : Int32) + nI j = nI (26 + j) := nI_add 26 j
      rw [zcN (by omega)]
      cases hy : zin y 2
      · refine ⟨M, ?_, zFr.rf⟩
        apply c_X8_thrift
        apply zL_of; rw [e_X8_thrift_0, s_isCustM (by omega) hI, Option.bind_some]
        dsimp only
        rw [hz, zbi_t rfl, if_neg zn10, s_in (by omega), Option.bind_some, zbi_eq zgm2]
        dsimp only
        rw [hy, zbi_f (by decide), if_pos rfl]; rfl
      · by_cases h0 : S (26 + j) = 0
        · obtain ⟨M1, e1, f1, p1⟩ := s_surveys (d := d) (by omega) hI.wf hI.md
          have hI1 := hI.fr (f1.mono (by decide))
          have hW := hI.wf
          have hM := hI1.md
          have hB := zSv_of hI.wf p1
          have hp1 := Nat.two_pow_pos (S 0)
          have hlt := zchp_lt (S := S) (c := j)
          have hE : zchp S j = (List.range (2 ^ S 0)).foldl (fun a s => if zhang S s then zhG S j a s else a) 0 := (zfold_HL (fun a s _ => rfl)).symm
          have hacc : ∀ k, k ≤ 2 ^ S 0 → (fun a => a = 0 ∨ (a < 2 ^ S 0 ∧ zhang S a = true ∧ zheld S a = true)) ((List.range k).foldl (fun a s => if zhang S s then zhG S j a s else a) 0) := by
            intro k hk
            refine zfold_ok (g := fun a s => if zhang S s then zhG S j a s else a) (Q := fun a => a = 0 ∨ (a < 2 ^ S 0 ∧ zhang S a = true ∧ zheld S a = true)) _ 0 (Or.inl rfl) (fun s hs a ha => ?_)
            split
            · rename_i hh
              unfold zhG
              split
              · rename_i hf
                split
                · unfold zfit at hf
                  rw [Bool.and_eq_true] at hf
                  exact Or.inr ⟨Nat.lt_of_lt_of_le (List.mem_range.mp hs) hk, hh, hf.1⟩
                · exact ha
              · exact ha
            · exact ha
          have key : ∀ k, k ≤ 2 ^ S 0 → 0 < k → zL (zenv zbt d) tb_X8_thrift cu_X8_thrift 44 [some (.ref 66), some (.int (nI j)), some (.int y), some (.int (nI ((List.range k).foldl (fun a s => if zhang S s then zhG S j a s else a) 0))), some (.int (nI k))] [] M1 (some (.int (if zchp S j = 0 then -1000000 else if y = 0 then nI (zchp S j) else nI (zpay S (zchp S j)))), M1) := by
            apply zup
            · intro _
              apply zL_of; rw [e_X8_thrift_44, zsh1 hW hM, if_pos (nI_le (Nat.le_refl _) (by omega)), ← hE]
              by_cases hb0 : zchp S j = 0
              · rw [if_pos (show nI (zchp S j) = 0 by rw [hb0]; rfl), if_pos hb0]; rfl
              · rw [if_neg (nI_ne0 (by omega) (by omega)), if_neg hb0]
                by_cases hy0 : y = 0
                · rw [if_pos hy0, if_pos hy0]; rfl
                · rw [if_neg hy0, if_neg hy0, s_paysBy (by omega) hW hM hB hlt, Option.bind_some]
                  rcases zchp_ok (S := S) (c := j) with q | q
                  · exact absurd q hb0
                  · rw [q.2.1, q.2.2]; rfl
            · intro k hk ih hk0
              have ih := ih (by omega)
              have ha := hacc k (by omega)
              rw [zrange_succ] at ih
              generalize (List.range k).foldl (fun a s => if zhang S s then zhG S j a s else a) 0 = a at ih ha ⊢
              apply zL_of; rw [e_X8_thrift_44, zsh1 hW hM, if_neg (nI_ge hk (by omega)), s_fitsFor (by omega) hW hM hB hk hj, Option.bind_some]
              dsimp only
              by_cases hf : zhang S k = true ∧ zfit S j k = true
              · have hk2 : zheld S k = true := by
                  have := hf.2
                  unfold zfit at this
                  rw [Bool.and_eq_true] at this
                  exact this.1
                rw [zbi_t hf, if_neg zn10]
                simp only [hf.1, if_true, zhG, hf.2] at ih
                by_cases h1 : a = 0
                · subst h1
                  rw [if_pos (show nI 0 = (0 : Int32) from rfl)]
                  apply zPo_go
                  simpa only [zlit, nI_add, true_or, if_true] using ih
                · rcases ha with q | ⟨ha1, ha2, ha3⟩
                  · exact absurd q h1
                  · have hq1 := hW.pay k
                    have hq2 := hW.pay a
                    rw [if_neg (nI_ne0 (by omega) (by omega)), s_paysBy (by omega) hW hM hB hk, Option.bind_some]
                    dsimp only
                    rw [s_paysBy (by omega) hW hM hB ha1, Option.bind_some]
                    dsimp only
                    simp only [hf.1, hk2, ha2, ha3, Bool.and_self, if_true]
                    simp only [h1, false_or] at ih
                    by_cases h2 : zpay S k < zpay S a
                    · rw [if_neg (nI_ge h2 (by omega))]
                      apply zPo_go
                      simpa only [zlit, nI_add, h2, if_true] using ih
                    · rw [if_pos (nI_le (by omega) (by omega))]
                      apply zPo_go
                      simpa only [zlit, nI_add, h2, if_false] using ih
              · rw [zbi_f hf, if_pos rfl]
                apply zPo_go
                have e : (if zhang S k = true then zhG S j a k else a) = a := by
                  by_cases hz : zhang S k = true
                  · rw [if_pos hz]
                    unfold zhG
                    rw [if_neg (fun q => hf ⟨hz, q⟩)]
                  · rw [if_neg hz]
                rw [e] at ih
                simpa only [zlit, nI_add] using ih
          refine ⟨M1, ?_, f1.mono (by decide)⟩
          apply c_X8_thrift
          apply zL_of; rw [e_X8_thrift_0, s_isCustM (by omega) hI, Option.bind_some]
          dsimp only
          rw [hz, zbi_t rfl, if_neg zn10, s_in (by omega), Option.bind_some, zbi_eq zgm2]
          dsimp only
          rw [hy, zbi_t rfl, if_neg zn10, e3, zck_t (zinN (by omega) (by decide)), hI.md.at (by omega), h0, if_pos (by decide), e1, Option.bind_some, if_pos rfl, if_pos rfl, if_pos rfl]
          apply zPo_go
          have := key 1 (by omega) (by omega)
          have e0 : (List.range 1).foldl (fun a s => if zhang S s then zhG S j a s else a) 0 = 0 := by
            simp [List.range_succ, zhang]
          rw [e0] at this
          exact this
        · refine ⟨M, ?_, zFr.rf⟩
          apply c_X8_thrift
          apply zL_of; rw [e_X8_thrift_0, s_isCustM (by omega) hI, Option.bind_some]
          dsimp only
          rw [hz, zbi_t rfl, if_neg zn10, s_in (by omega), Option.bind_some, zbi_eq zgm2]
          dsimp only
          rw [hy, zbi_t rfl, if_neg zn10, e3, zck_t (zinN (by omega) (by decide)), hI.md.at (by omega), if_neg (show ¬ (nI (S (26 + j)) ≤ 0) from nI_nle (by omega) (by omega)), if_neg h0]; rfl
theorem zcr (M : ZM) (hR : zRows M) {r : Nat} (hr : r < 8) : (M.1 (2 + r) 1 = 0 ∧ M.1 68 r = -1) ∨ (M.1 (2 + r) 1 = 1 ∧ ∃ n, n ≤ 40 ∧ M.1 68 r = nI n) := by
  rcases hR r hr with h | ⟨h1, n, l, h2, h3, h4, h5, h6⟩
  · exact Or.inl h
  · exact Or.inr ⟨h1, n, h2, h5⟩
theorem zel1 : ∀ r, r < 8 → zel 1 r = 2 + r := by decide
theorem zfi4 : ∀ r, r < 8 → zfi (2 + r) 4 1 = true ∧ zfi (2 + r) 4 2 = true ∧ zfi (2 + r) 4 3 = true ∧ zfr (2 + r) 4 0 = true ∧ zrf (2 + r) 0 = 10 + r ∧ zis (2 + r) 4 = true := by decide
/-- how many rows are there -/
def zrn (M : ZM) (k : Nat) : Nat := zsum (fun r => if M.1 (2 + r) 1 = 0 then 0 else 1) k
theorem s_countRows (hd : 1 ≤ d) : (zenv zbt d).1 130 [.ref 0] M = some (nI (zrn M 8), M) := by
  obtain ⟨d, rfl⟩ : ∃ e, d = e + 1 := ⟨d - 1, by omega⟩
  have key : ∀ i, i ≤ 8 → zL (zenv zbt d) tb_X7_countRows cu_X7_countRows 4 [some (.ref 0), some (.int (nI (zrn M i))), some (.int (nI i))] [] M (some (.int (nI (zrn M 8))), M) := by
    apply zup
    · apply zL_of; rw [e_X7_countRows_4, if_pos (by decide)]; rfl
    · intro i hi ih
      apply zL_of; rw [e_X7_countRows_4, if_neg (show ¬ ((8 : Int32) ≤ nI i) from nI_ge hi (by decide)), zck_t (zinN hi (by decide)), zcN (by omega), zel1 i hi, zck_t (zfi4 i hi).1]
      by_cases h : M.1 (2 + i) 1 = 0
      · rw [if_pos h]
        apply zPo_go
        simpa only [zlit, nI_add, zrn, zsum, h, if_true] using ih
      · rw [if_neg h]
        apply zPo_go
        simp only [zrn, zsum, if_neg h] at ih ⊢
        simpa only [zlit, nI_add] using ih
  apply c_X7_countRows
  apply zL_of; rw [e_X7_countRows_0]; apply zPo_go
  exact key 0 (by omega)
theorem a_count (hI : zInv S M) (y : Int32) : zAl 118 229 [.int y] M := by
  have hn := hI.wf.n
  have hon := hI.wf.on
  obtain ⟨a, f, P, ha, hf, g1, g2, g3, -, -⟩ := hI.2.2.2.2.2.2.2.1
  obtain ⟨tn, ht, t1, t2, -⟩ := hI.2.2.2.2.2.1
  intro d hd
  obtain ⟨d, rfl⟩ : ∃ e, d = e + 1 := ⟨d - 1, by omega⟩
  obtain ⟨h0, h1, h2, h3, h4, h5, h6, h7, -, -⟩ := hI.sh
  refine ⟨if y = 0 then nI (zrn M 8) else if y = 1 then nI (S 0) else if y = 2 then nI (S 2) else if y = 3 then nI (zpop (zon S)) else if y = 4 then nI (zserved S) else if y = 5 then nI (S 24) else if y = 6 then nI a else if y = 7 then nI tn else -1000001, M, M, S, ?_, ?_, hI⟩
  · apply c_X7_count
    apply zL_of; rw [e_X7_count_0]
    simp only [s_countRows (d := d) (by omega), h1, h2, h5, s_bitCount (d := d) (by omega) hon, s_served (d := d) (by omega) (Or.inl rfl) hI.wf hI.sh, h4, g1, t1, Option.bind_some]
    repeat' split
    all_goals first | rfl | (rename_i q; exact absurd q (by simp_all))
  · have fin : zL (zenv zbt d) tb_X8_count cu_X8_count 4 [some (.ref 66), some (.int y), some (.int (nI (zrn M 8))), some (.int (nI 8))] [] M (some (.int (if y = 0 then nI (zrn M 8) else if y = 1 then nI (S 0) else if y = 2 then nI (S 2) else if y = 3 then nI (zpop (zon S)) else if y = 4 then nI (zserved S) else if y = 5 then nI (S 24) else if y = 6 then nI a else if y = 7 then nI tn else -1000001)), M) := by
      apply zL_of; rw [e_X8_count_4, if_pos (by decide)]
      simp only [hI.md.1 0 (by decide), hI.md.1 2 (by decide), hI.md.1 24 (by decide), s_on (d := d) (by omega) hI.wf hI.md, s_ones (d := d) (by omega) (show zon S < 2 ^ 31 by omega), s_servedNow (d := d) (by omega) hI.wf hI.md, g2, t2, Option.bind_some]
      repeat' split
      all_goals first | rfl | (rename_i q; exact absurd q (by simp_all))
    have key : ∀ i, i ≤ 8 → zL (zenv zbt d) tb_X8_count cu_X8_count 4 [some (.ref 66), some (.int y), some (.int (nI (zrn M i))), some (.int (nI i))] [] M (some (.int (if y = 0 then nI (zrn M 8) else if y = 1 then nI (S 0) else if y = 2 then nI (S 2) else if y = 3 then nI (zpop (zon S)) else if y = 4 then nI (zserved S) else if y = 5 then nI (S 24) else if y = 6 then nI a else if y = 7 then nI tn else -1000001)), M) := by
      apply zup
      · exact fin
      · intro i hi ih
        apply zL_of; rw [e_X8_count_4, if_neg (show ¬ ((8 : Int32) ≤ nI i) from nI_ge hi (by decide)), zck_t (zinN hi (by decide)), zcN (by omega)]
        rcases zcr M hI.rw hi with ⟨q1, q2⟩ | ⟨q1, n, q2, q3⟩
        · rw [q2, if_neg (by decide)]
          apply zPo_go
          simpa only [zlit, nI_add, zrn, zsum, q1, if_true] using ih
        · rw [q3, if_pos (nI_pos' (by omega))]
          apply zPo_go
          simp only [zrn, zsum, q1, if_neg (show ¬ ((1 : Int32) = 0) by decide)] at ih ⊢
          simpa only [zlit, nI_add] using ih
    apply c_X8_count
    apply zL_of; rw [e_X8_count_0]; apply zPo_go
    exact key 0 (by omega)
end ZX18

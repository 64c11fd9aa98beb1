/-! piece, parts, lone alike -/
theorem zxor_dif {S : Nat → Nat} {s : Nat} (h : zheld S s = true) : zon S ^^^ s = zdif (zon S) s := by
  unfold zheld at h
  rw [beq_iff_eq, zdif_0] at h
  apply Nat.eq_of_testBit_eq
  intro i
  rw [zdif_bit, Nat.testBit_xor]
  cases hs : s.testBit i
  · cases (zon S).testBit i <;> rfl
  · rw [h i hs]; rfl
section ZX20
variable {d : Nat} {M : ZM} {S : Nat → Nat}
theorem zpc_of {x : Int32} (h : zpc S x = true) : ∃ s, s < 2 ^ S 0 ∧ 0 < s ∧ x = nI s ∧ zheld S s = true ∧ zhang S s = true := by
  unfold zpc at h
  rw [Bool.and_eq_true, Bool.and_eq_true, decide_eq_true_eq] at h
  obtain ⟨s, h1, h2, rfl⟩ := zpos_of (x := x) (Int32.not_le.mpr h.1)
  rw [zcN h1] at h
  exact ⟨s, zheld_lt h.2.1, h2, rfl, h.2.1, h.2.2⟩
theorem a_piece (hI : zInv S M) (x y : Int32) : zAl 96 192 [.int x, .int y] M := by
  have hp := zpow10 hI.wf.n
  refine zAl.of hI (r := if zpc S x then (if y = 0 then nI (zpay S x.toNatClampNeg) else if y = 1 then nI (ztear S (zon S) x.toNatClampNeg) else if y = 2 then nI (zpop x.toNatClampNeg) else if y = 3 then nI (zpn S (zdif (zon S) x.toNatClampNeg)) else -1000001) else -1000001) (fun d hd => ⟨M, ?_, zFr.rf⟩) (fun d M hd hI => ⟨M, ?_, zFr.rf⟩)
  · obtain ⟨d, rfl⟩ : ∃ e, d = e + 1 := ⟨d - 1, by omega⟩
    apply c_X7_piece
    apply zL_of; rw [e_X7_piece_0, s_isPieceC (by omega) (Or.inl rfl) hI.wf hI.sh hI.fi, Option.bind_some]
    dsimp only
    cases hz : zpc S x
    · rw [zbi_f (by decide), if_pos rfl]; rfl
    · obtain ⟨s, h1, h2, rfl, h3, h4⟩ := zpc_of hz
      rw [zbi_t rfl, if_neg zn10, hI.sh.2.2.2.2.2.1]
      simp only [zxor, zxor_dif h3, s_paysOf (d := d) (by omega) (Or.inl rfl) hI.wf hI.sh (show s < 1024 by omega), s_tearsOf (d := d) (by omega) (Or.inl rfl) hI.wf hI.sh (show s < 1024 by omega), s_bitCount (d := d) (by omega) (show s < 1024 by omega), s_countParts (d := d) (by omega) (Or.inl rfl) hI.wf hI.sh (zdif_lt (b := s) (zon_lt (S := S))), zcN (show s < 2 ^ 31 by omega), Option.bind_some, if_true]
      repeat' split
      all_goals first | rfl | (rename_i q; exact absurd q (by simp_all))
  · obtain ⟨d, rfl⟩ : ∃ e, d = e + 1 := ⟨d - 1, by omega⟩
    have hon := hI.wf.on
    apply c_X8_piece
    apply zL_of; rw [e_X8_piece_0, s_isPieceM (by omega) hI.wf hI.md, Option.bind_some]
    dsimp only
    cases hz : zpc S x
    · rw [zbi_f (by decide), if_pos rfl]; rfl
    · obtain ⟨s, h1, h2, rfl, h3, h4⟩ := zpc_of hz
      rw [zbi_t rfl, if_neg zn10]
      simp only [s_on (d := d) (by omega) hI.wf hI.md, zandn (show zon S < 2 ^ 32 by omega), s_pays (d := d) (by omega) hI.wf hI.md (show s < 1024 by omega), s_mtears (d := d) (by omega) hI.wf hI.md (show s < 1024 by omega), s_ones (d := d) (by omega) (show s < 2 ^ 31 by omega), s_manyParts (d := d) (by omega) hI.wf hI.md (zdif_lt (b := s) (zon_lt (S := S))), zcN (show s < 2 ^ 31 by omega), Option.bind_some, if_true]
      repeat' split
      all_goals first | rfl | (rename_i q; exact absurd q (by simp_all))
theorem a_parts (hI : zInv S M) (x : Int32) : zAl 97 193 [.int x] M := by
  have hn := hI.wf.n
  have hp := zpow10 hI.wf.n
  refine zAl.of hI (r := if S 0 = 0 then -1000002 else if -1 ≤ x then (if x = -1 then nI (zpn S (zon S)) else zptA S (zon S) x) else -1000001) (fun d hd => ⟨M, ?_, zFr.rf⟩) (fun d M hd hI => ⟨M, ?_, zFr.rf⟩)
  · obtain ⟨d, rfl⟩ : ∃ e, d = e + 1 := ⟨d - 1, by omega⟩
    apply c_X7_parts
    apply zL_of; rw [e_X7_parts_0, s_isThereC (by omega) hI, Option.bind_some]
    dsimp only
    by_cases hz : S 0 = 0
    · rw [zbi_f (fun q => q hz), if_pos rfl, if_pos hz]; rfl
    · rw [zbi_t hz, if_neg zn10, if_neg hz, hI.sh.2.2.2.2.2.1]
      by_cases h1 : -1 ≤ x
      · rw [if_pos h1, if_pos h1]
        by_cases h2 : x = -1
        · rw [if_pos h2, if_pos h2, s_countParts (by omega) (Or.inl rfl) hI.wf hI.sh zon_lt, Option.bind_some]; rfl
        · have h3 : ¬ x < 0 := by
            intro q
            apply h2
            apply Int32.toInt_inj.mp
            have a1 := Int32.le_iff_toInt_le.mp h1
            have a2 := Int32.lt_iff_toInt_lt.mp q
            have a3 : (-1 : Int32).toInt = -1 := by decide
            have a4 : (0 : Int32).toInt = 0 := by decide
            rw [a3] at a1 ⊢
            rw [a4] at a2
            omega
          rw [if_neg h2, if_neg h2, s_partNumber (by omega) (Or.inl rfl) hI.wf hI.sh h3, Option.bind_some]; rfl
      · rw [if_neg h1, if_neg h1]; rfl
  · obtain ⟨d, rfl⟩ : ∃ e, d = e + 1 := ⟨d - 1, by omega⟩
    apply c_X8_parts
    apply zL_of; rw [e_X8_parts_0, hI.md.1 0 (by decide)]
    by_cases hz : S 0 = 0
    · rw [if_pos (by rw [hz]; rfl), if_pos hz]; rfl
    · rw [if_neg (nI_ne0 (by omega) (by omega)), if_neg hz]
      by_cases h1 : -1 ≤ x
      · rw [if_pos h1, if_pos h1]
        by_cases h2 : x = -1
        · rw [if_pos h2, if_pos h2, if_pos h2, s_on (by omega) hI.wf hI.md, Option.bind_some]
          dsimp only
          rw [s_manyParts (by omega) hI.wf hI.md zon_lt, Option.bind_some]; rfl
        · have h3 : ¬ x < 0 := by
            intro q
            apply h2
            apply Int32.toInt_inj.mp
            have a1 := Int32.le_iff_toInt_le.mp h1
            have a2 := Int32.lt_iff_toInt_lt.mp q
            have a3 : (-1 : Int32).toInt = -1 := by decide
            have a4 : (0 : Int32).toInt = 0 := by decide
            rw [a3] at a1 ⊢
            rw [a4] at a2
            omega
          obtain ⟨k, hk, rfl⟩ := nI_of h3
          rw [if_neg h2, if_neg h2, s_on (by omega) hI.wf hI.md, Option.bind_some]
          dsimp only
          by_cases h4 : k < 10
          · obtain ⟨q1, q2⟩ := zpt_pos hI.wf (W := zon S) zon_lt (k := k)
            rw [if_neg (show ¬ ((10 : Int32) ≤ nI k) from nI_ge h4 (by decide)), s_partOf (by omega) hI.wf hI.md zon_lt (by omega), Option.bind_some]
            dsimp only
            rw [if_neg h2]
            unfold zptA
            rw [zinN h4 (by decide), if_pos rfl, zcN hk]
            by_cases h5 : zlf S (zon S) k = 0
            · have : zpt S (zon S) k = 0 := by unfold zpt; rw [if_pos h5]
              rw [this, if_pos (by decide), if_pos h5]; rfl
            · have := q1.mpr h5
              rw [if_neg (nI_nle this (by omega)), if_neg h5]; rfl
          · rw [if_pos (show (10 : Int32) ≤ nI k from nI_le (Nat.le_of_not_lt h4) hk)]
            have e10 : zpt S (zon S) 10 = 0 := by unfold zpt; rw [if_pos (zlf_10 hI.wf zon_lt)]
            have hq : (zenv zbt d).1 190 [.ref 66, .int (nI (zon S)), .int 10] M = some (nI (zpt S (zon S) 10), M) := s_partOf (by omega) hI.wf hI.md zon_lt (by decide)
            rw [hq, Option.bind_some]
            dsimp only
            rw [if_neg h2, e10, if_pos (by decide)]
            have : zin (nI k) 10 = false := by
              cases q : zin (nI k) 10
              · rfl
              · have := (zin_int.mp q).2
                rw [nI_toInt hk] at this
                omega
            unfold zptA
            rw [this]; rfl
      · rw [if_neg h1, if_neg h1]; rfl
/-- the stamps that alone keep a part together -/
def zlonG (S : Nat → Nat) (c : Nat) : Nat := if (zon S).testBit c = true ∧ zpn S (zon S) < zpn S (zdif (zon S) (2 ^ c)) then 2 ^ c else 0
theorem zxor_bit {x c : Nat} (h : x.testBit c = true) : x ^^^ 2 ^ c = zdif x (2 ^ c) := by
  apply Nat.eq_of_testBit_eq
  intro i
  rw [zdif_bit, Nat.testBit_xor]
  by_cases e : i = c
  · subst e
    rw [h, Nat.testBit_two_pow_self]; rfl
  · rw [Nat.testBit_two_pow_of_ne (fun q => e q.symm)]
    cases x.testBit i <;> rfl
theorem a_lone (hI : zInv S M) : zAl 107 211 [] M := by
  have hn := hI.wf.n
  have hp := zpow10 hI.wf.n
  have hon := hI.wf.on
  have hpn : ∀ W, W < 2 ^ S 0 → zpn S W ≤ 10 := fun W hW => (zpn_spec hI.wf hW).1
  refine zAl.of hI (r := if S 0 = 0 then -1000002 else nI (zors (zlonG S) (S 0))) (fun d hd => ⟨M, ?_, zFr.rf⟩) (fun d M hd hI => ⟨M, ?_, zFr.rf⟩)
  · obtain ⟨d, rfl⟩ : ∃ e, d = e + 1 := ⟨d - 1, by omega⟩
    apply c_X7_lone
    apply zL_of; rw [e_X7_lone_0, s_isThereC (by omega) hI, Option.bind_some]
    dsimp only
    by_cases hz : S 0 = 0
    · rw [zbi_f (fun q => q hz), if_pos rfl, if_pos hz]; rfl
    · rw [zbi_t hz, if_neg zn10, if_neg hz, hI.sh.2.2.2.2.2.1, s_countParts (by omega) (Or.inl rfl) hI.wf hI.sh zon_lt, Option.bind_some]
      apply zPo_go
      have key : ∀ i, i ≤ S 0 → zL (zenv zbt d) tb_X7_lone cu_X7_lone 29 [some (.ref 0), some (.int (nI (zpn S (zon S)))), some (.int (nI (zors (zlonG S) i))), some (.int (nI i))] [] M (some (.int (nI (zors (zlonG S) (S 0)))), M) := by
        apply zup
        · apply zL_of; rw [e_X7_lone_29, hI.sh.2.1, if_pos (nI_le (Nat.le_refl _) (by omega))]; rfl
        · intro i hi ih
          have hd2 : zdif (zon S) (2 ^ i) < 2 ^ S 0 := zdif_lt zon_lt
          have hq1 := hpn _ (zon_lt (S := S))
          have hq2 := hpn _ hd2
          apply zL_of; rw [e_X7_lone_29, hI.sh.2.1, if_neg (nI_ge hi (by omega)), s_isOn (by omega) (Or.inl rfl) hI.wf hI.sh (by omega), Option.bind_some]
          dsimp only
          cases ht : (zon S).testBit i
          · rw [zbi_f (by decide), if_pos rfl]
            apply zPo_go
            have e : zlonG S i = 0 := by unfold zlonG; rw [ht, if_neg (by simp)]
            simpa only [zlit, nI_add, zors, e, Nat.or_zero] using ih
          · have e1 : nI (zon S) ^^^ zshl 1 (nI i) = nI (zdif (zon S) (2 ^ i)) := by rw [show zshl 1 (nI i) = nI (2 ^ i) from zshl1 (by omega), zxor, zxor_bit ht]
            rw [zbi_t rfl, if_neg zn10, hI.sh.2.2.2.2.2.1, e1, s_countParts (by omega) (Or.inl rfl) hI.wf hI.sh hd2, Option.bind_some]
            dsimp only
            by_cases hlt : zpn S (zon S) < zpn S (zdif (zon S) (2 ^ i))
            · rw [if_neg (nI_ge hlt (by omega)), show zshl 1 (nI i) = nI (2 ^ i) from zshl1 (by omega), zor]
              apply zPo_go
              have e : zlonG S i = 2 ^ i := by unfold zlonG; rw [if_pos ⟨ht, hlt⟩]
              simpa only [zlit, nI_add, zors, e] using ih
            · rw [if_pos (nI_le (by omega) (by omega))]
              apply zPo_go
              have e : zlonG S i = 0 := by unfold zlonG; rw [if_neg (fun q => hlt q.2)]
              simpa only [zlit, nI_add, zors, e, Nat.or_zero] using ih
      exact key 0 (by omega)
  · obtain ⟨d, rfl⟩ : ∃ e, d = e + 1 := ⟨d - 1, by omega⟩
    apply c_X8_lone
    apply zL_of; rw [e_X8_lone_0, hI.md.1 0 (by decide)]
    by_cases hz : S 0 = 0
    · rw [if_pos (by rw [hz]; rfl), if_pos hz]; rfl
    · rw [if_neg (nI_ne0 (by omega) (by omega)), if_neg hz, s_on (by omega) hI.wf hI.md, Option.bind_some]
      dsimp only
      rw [s_manyParts (by omega) hI.wf hI.md zon_lt, Option.bind_some]
      apply zPo_go
      have key : ∀ i, i ≤ S 0 → zL (zenv zbt d) tb_X8_lone cu_X8_lone 25 [some (.ref 66), some (.int (nI (zpn S (zon S)))), some (.int (nI (zors (zlonG S) i))), some (.int (nI i))] [] M (some (.int (nI (zors (zlonG S) (S 0)))), M) := by
        apply zup
        · apply zL_of; rw [e_X8_lone_25, hI.md.1 0 (by decide), if_pos (nI_le (Nat.le_refl _) (by omega))]; rfl
        · intro i hi ih
          have hd2 : zdif (zon S) (2 ^ i) < 2 ^ S 0 := zdif_lt zon_lt
          have hq1 := hpn _ (zon_lt (S := S))
          have hq2 := hpn _ hd2
          apply zL_of; rw [e_X8_lone_25, hI.md.1 0 (by decide), if_neg (nI_ge hi (by omega)), s_on (by omega) hI.wf hI.md, Option.bind_some]
          dsimp only
          rw [s_has (by omega) (by omega) (by omega), Option.bind_some]
          dsimp only
          cases ht : (zon S).testBit i
          · rw [zbi_f (by decide), if_pos rfl]
            apply zPo_go
            have e : zlonG S i = 0 := by unfold zlonG; rw [ht, if_neg (by simp)]
            simpa only [zlit, nI_add, zor, zors, e, Nat.or_zero] using ih
          · rw [zbi_t rfl, if_neg zn10, s_on (by omega) hI.wf hI.md, Option.bind_some]
            dsimp only
            rw [show zshl 1 (nI i) = nI (2 ^ i) from zshl1 (by omega), zandn (by omega), s_manyParts (by omega) hI.wf hI.md hd2, Option.bind_some]
            dsimp only
            by_cases hlt : zpn S (zon S) < zpn S (zdif (zon S) (2 ^ i))
            · rw [if_neg (nI_ge hlt (by omega)), zor]
              apply zPo_go
              have e : zlonG S i = 2 ^ i := by unfold zlonG; rw [if_pos ⟨ht, hlt⟩]
              simpa only [zlit, nI_add, zors, e] using ih
            · rw [if_pos (nI_le (by omega) (by omega))]
              apply zPo_go
              have e : zlonG S i = 0 := by unfold zlonG; rw [if_neg (fun q => hlt q.2)]
              simpa only [zlit, nI_add, zor, zors, e, Nat.or_zero] using ih
      exact key 0 (by omega)
end ZX20

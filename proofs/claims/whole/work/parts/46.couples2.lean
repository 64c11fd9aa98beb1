/-! couples: the reference; both -/
section ZX35
variable {d : Nat} {M : ZM} {S : Nat → Nat}
theorem zwl_nk {c k k' : Nat} {v : Int64} (h : k' ≠ k) : (zwl M c k v).2 c k' = M.2 c k' := by rw [zwl_at, if_neg (fun q => h q.2)]
theorem s_coupM (hd : 3 ≤ d) (hW : zwf S) (hM : zMod S M) (hp : 0 < S 0) : ∃ M', (zenv zbt d).1 207 [.ref 66] M = some (nI (zF S (zon S)), M') ∧ zFr [78] M M' := by
  obtain ⟨d, rfl⟩ : ∃ e, d = e + 1 := ⟨d - 1, by omega⟩
  have hn := hW.n
  have hon := hW.on
  have hpw := zpow10 hn
  have hol := zon_lt (S := S)
  have key : ∀ s, s ≤ 2 ^ S 0 → ∀ M1, zFr [78] M M1 → (∀ t, t < s → M1.2 78 t = lN (zF S t)) → ∃ M', zL (zenv zbt d) tb_X8_couples cu_X8_couples 14 [some (.ref 66), some (.int (nI s)), none, none, none, none, none] [] M1 (some (.int (nI (zF S (zon S)))), M') ∧ zFr [78] M M' := by
    apply zup
    · intro M1 f1 g1
      have hM1 := hM.fr f1 (by decide) (by decide)
      refine ⟨M1, ?_, f1⟩
      apply zL_of; rw [e_X8_couples_14, hM1.1 0 (by decide), show zshl 1 (nI (S 0)) = nI (2 ^ S 0) from zshl1 (by omega), if_pos (nI_le (Nat.le_refl _) (by omega)), s_on (by omega) hW hM1, Option.bind_some]
      dsimp only
      rw [zck_t (zinN hon (by decide)), zcN (by omega), g1 _ hol, lN_i]; rfl
    · intro s hs ih M1 f1 g1
      have hM1 := hM.fr f1 (by decide) (by decide)
      obtain ⟨M', hL, f'⟩ := ih (zwl M1 78 s (lN (zF S s))) (f1.wl (by decide)) (fun t ht => by
        by_cases e : t = s
        · rw [e, zwl_eq]
        · rw [zwl_nk e]; exact g1 t (by omega))
      refine ⟨M', ?_, f'⟩
      by_cases h0 : s = 0
      · subst h0
        have e0 : zF S 0 = 1 := rfl
        have inner : ∀ c, c ≤ S 0 → zL (zenv zbt d) tb_X8_couples cu_X8_couples 56 [some (.ref 66), some (.int (nI 0)), some (.long 1), none, some (.int 0), some (.int (nI c)), none] [] M1 (some (.int (nI (zF S (zon S)))), M') := by
          apply zup
          · apply zL_of; rw [e_X8_couples_56, hM1.1 0 (by decide), if_pos (nI_le (Nat.le_refl _) (by omega)), zck_t (by decide), nI_1]
            exact zPo_go hL
          · intro c hc ih2
            apply zL_of; rw [e_X8_couples_56, hM1.1 0 (by decide), if_neg (nI_ge hc (by omega)), if_pos (by decide), if_pos rfl, nI_1]
            exact zPo_go ih2
        apply zL_of; rw [e_X8_couples_14, hM1.1 0 (by decide), show zshl 1 (nI (S 0)) = nI (2 ^ S 0) from zshl1 (by omega), if_neg (nI_ge (by omega) (by omega)), if_pos (by decide), if_pos (by decide)]
        exact zPo_go (inner 1 (by omega))
      · obtain ⟨l1, l2, l3⟩ := zlow_lt s (by omega) h0
        have hln : zlow s < S 0 := zlt_of_bit hs l2
        have hnx := hW.nx' hln
        have inner : ∀ c, c ≤ S 0 → zlow s < c → zL (zenv zbt d) tb_X8_couples cu_X8_couples 56 [some (.ref 66), some (.int (nI s)), some (.long (lN (zsum (zFg S s) c))), none, some (.int (nI (zlow s))), some (.int (nI c)), none] [] M1 (some (.int (nI (zF S (zon S)))), M') := by
          apply zup
          · intro _
            apply zL_of; rw [e_X8_couples_56, hM1.1 0 (by decide), if_pos (nI_le (Nat.le_refl _) (by omega)), zck_t (zinN (by omega) (by decide)), zcN (by omega), nI_1, ← zF_eq (by omega) h0]
            exact zPo_go hL
          · intro c hc ih2 hlc
            have ih3 := ih2 (by omega)
            rw [zsum] at ih3
            have eL : ∀ x, lN x + 0 = lN (x + 0) := fun x => lN_add x 0
            apply zL_of; rw [e_X8_couples_56, hM1.1 0 (by decide), if_neg (nI_ge hc (by omega)), if_neg (nI_nle (by omega) (by omega)), s_has (by omega) (by omega) (by omega), Option.bind_some]
            dsimp only
            cases q1 : s.testBit c
            · rw [zbi_f (by decide), if_pos rfl, if_pos rfl, nI_1, eL]
              rw [zFg, if_neg (fun q => by rw [q1] at q; cases q.2.1)] at ih3
              exact zPo_go ih3
            · rw [zbi_t rfl, if_neg zn10, zck_t (zinN (by omega) (by decide)), zcN (show zlow s < 2 ^ 31 by omega), hM1.2 _ hln, s_has (by omega) (by omega) (by omega), Option.bind_some]
              dsimp only
              cases q2 : (znx (S 1) (S 0) (zlow s)).testBit c
              · rw [zbi_f (by decide), if_pos rfl, if_pos rfl, nI_1, eL]
                rw [zFg, if_neg (fun q => by rw [q2] at q; cases q.2.2)] at ih3
                exact zPo_go ih3
              · have r1 := zdif_lt2 l2
                have r2 := zdif_le (zdif s (2 ^ zlow s)) (2 ^ c)
                rw [zbi_t rfl, if_neg zn10, if_neg zn10, show zshl 1 (nI (zlow s)) = nI (2 ^ zlow s) from zshl1 (by omega), show zshl 1 (nI c) = nI (2 ^ c) from zshl1 (by omega), zandn (by omega), zandn (by omega), zck_t (zinN (by omega) (by decide)), zcN (by omega), g1 _ (by omega), lN_add, nI_1]
                rw [zFg, if_pos ⟨hlc, q1, q2⟩] at ih3
                exact zPo_go ih3
        have h56 := inner (zlow s + 1) (by omega) (by omega)
        rw [zFg_0] at h56
        have hs0 : ¬ (nI s = 0) := nI_ne0 (by omega) (by omega)
        apply zL_of; rw [e_X8_couples_14, hM1.1 0 (by decide), show zshl 1 (nI (S 0)) = nI (2 ^ S 0) from zshl1 (by omega), if_neg (nI_ge (by omega) (by omega)), if_neg hs0, if_neg hs0, s_lowest (by omega) (by omega) h0, Option.bind_some]
        dsimp only
        rw [nI_1]
        exact zPo_go h56
  obtain ⟨M', hL, f'⟩ := key 0 (by omega) M zFr.rf (fun t ht => by omega)
  refine ⟨M', ?_, f'⟩
  apply c_X8_couples
  apply zL_of; rw [e_X8_couples_0, hM.1 0 (by decide), if_neg (nI_ne0 hp (by omega))]
  exact zPo_go hL
theorem a_couples (hI : zInv S M) : zAl 104 207 [] M := by
  have hn := hI.wf.n
  by_cases h0 : S 0 = 0
  · intro d hd
    obtain ⟨d, rfl⟩ : ∃ e, d = e + 1 := ⟨d - 1, by omega⟩
    refine ⟨-1000002, M, M, S, ?_, ?_, hI⟩
    · apply c_X7_couples
      apply zL_of; rw [e_X7_couples_0, s_isThereC (by omega) hI, Option.bind_some]
      dsimp only
      rw [zbi_f (fun q => q h0), if_pos rfl]; rfl
    · apply c_X8_couples
      apply zL_of; rw [e_X8_couples_0, hI.md.1 0 (by decide), if_pos (by rw [h0]; rfl)]; rfl
  · refine zAl.of hI (r := nI (zF S (zon S))) (fun d hd => ?_) (fun d M hd hI => ?_)
    · obtain ⟨d, rfl⟩ : ∃ e, d = e + 1 := ⟨d - 1, by omega⟩
      obtain ⟨M1, e1, f1⟩ := s_coupC (d := d) (by omega) (Or.inl rfl) hI.wf hI.sh
      refine ⟨M1, ?_, f1.mono (by decide)⟩
      apply c_X7_couples
      apply zL_of; rw [e_X7_couples_0, s_isThereC (by omega) hI, Option.bind_some]
      dsimp only
      rw [zbi_t h0, if_neg zn10, e1, Option.bind_some]; rfl
    · obtain ⟨M1, e1, f1⟩ := s_coupM (d := d) (by omega) hI.wf hI.md (by omega)
      exact ⟨M1, e1, f1.mono (by decide)⟩
end ZX35

/-! Who may ask: the tests ahead of the calls; the calls that only read a number -/
theorem zin_int {x : Int32} {n : Nat} : zin x n = true ↔ 0 ≤ x.toInt ∧ x.toInt < n := by
  rw [← vp_in_iff]
  constructor
  · exact zin_in
  · intro h
    unfold vp_in at h
    simp only [zin, Bool.and_eq_true, Bool.not_eq_true', decide_eq_false_iff_not, decide_eq_true_eq]
    exact ⟨fun q => h (Or.inl q), Nat.lt_of_not_le fun q => h (Or.inr q)⟩
theorem zbi_eq {p q : Prop} [Decidable p] [Decidable q] (h : p ↔ q) : zbi p = zbi q := by
  by_cases hp : p
  · rw [zbi_t hp, zbi_t (h.mp hp)]
  · rw [zbi_f hp, zbi_f (fun x => hp (h.mpr x))]
theorem zgd {x : Int32} {n : Nat} (hn : n < 2 ^ 31) : (if x < 0 then (0 : Int32) else if nI n ≤ x then 0 else 1) = zbi (zin x n = true) := by
  by_cases h0 : x < 0
  · rw [if_pos h0, zbi_f]
    intro q
    have h1 := (zin_int.mp q).1
    have h2 := Int32.lt_iff_toInt_lt.mp h0
    change x.toInt < 0 at h2
    omega
  · rw [if_neg h0]
    obtain ⟨j, hj, rfl⟩ := nI_of h0
    by_cases h1 : n ≤ j
    · rw [if_pos (nI_le h1 hj), zbi_f]
      intro q
      have h2 := (zin_int.mp q).2
      rw [nI_toInt hj] at h2
      omega
    · rw [if_neg (nI_ge (by omega) hn), zbi_t]
      exact zinN (by omega) hn
theorem zgm {x : Int32} {n : Nat} (hn : n < 2 ^ 30) : (0 ≤ x ∧ x ≤ nI n - 1) ↔ zin x n = true := by
  rw [zin_int, Int32.le_iff_toInt_le, Int32.le_iff_toInt_le]
  have h1 : (nI n - 1).toInt = (n : Int) - 1 := pk_sub_toInt (b := 1) hn (by decide)
  rw [h1]
  change 0 ≤ x.toInt ∧ _ ↔ _
  omega
theorem zPo_ite {E : ZE} {tb : List (Nat × ZP)} {cu : List (Nat × List Bool)} {p : Prop} [Decidable p] {x y : Int32} {M : ZM} {r : ZR} (h : (some (.int (if p then x else y)), M) = r) : zPo E tb cu (if p then some (.inl (some (.int x), M)) else some (.inl (some (.int y), M))) r := by
  by_cases hp : p
  · rw [if_pos hp] at h ⊢; exact h
  · rw [if_neg hp] at h ⊢; exact h
section ZX15
variable {d : Nat} {M : ZM} {S : Nat → Nat}
theorem zInv.wf (h : zInv S M) : zwf S := h.1
theorem zInv.sh (h : zInv S M) : zSheet S 20 M := h.2.1
theorem zInv.md (h : zInv S M) : zMod S M := h.2.2.1
theorem zInv.fi (h : zInv S M) : zFin S M := h.2.2.2.1
theorem zInv.rw (h : zInv S M) : zRows M := h.2.2.2.2.1
theorem zInv.mi (h : zInv S M) : zMisc M := h.2.2.2.2.2.2.1
theorem s_isCellC (hd : 1 ≤ d) (hI : zInv S M) (x : Int32) : (zenv zbt d).1 123 [.ref 0, .int x] M = some (zbi (zin x (S 0) = true), M) := by
  obtain ⟨d, rfl⟩ : ∃ e, d = e + 1 := ⟨d - 1, by omega⟩
  have hn := hI.wf.n
  apply c_X7_isCell
  apply zL_of; rw [e_X7_isCell_0, hI.sh.2.1, ← zgd (show S 0 < 2 ^ 31 by omega)]
  by_cases h0 : x < 0
  · rw [if_pos h0, if_pos h0]; rfl
  · rw [if_neg h0, if_neg h0]; exact zPo_ite rfl
theorem s_isCustC (hd : 1 ≤ d) (hI : zInv S M) (x : Int32) : (zenv zbt d).1 125 [.ref 0, .int x] M = some (zbi (zin x (S 2) = true), M) := by
  obtain ⟨d, rfl⟩ : ∃ e, d = e + 1 := ⟨d - 1, by omega⟩
  have hn := hI.wf.m
  apply c_X7_isCustomer
  apply zL_of; rw [e_X7_isCustomer_0, hI.sh.2.2.1, ← zgd (show S 2 < 2 ^ 31 by omega)]
  by_cases h0 : x < 0
  · rw [if_pos h0, if_pos h0]; rfl
  · rw [if_neg h0, if_neg h0]; exact zPo_ite rfl
theorem s_isRowC (hd : 1 ≤ d) (x : Int32) : (zenv zbt d).1 126 [.int x] M = some (zbi (zin x 8 = true), M) := by
  obtain ⟨d, rfl⟩ : ∃ e, d = e + 1 := ⟨d - 1, by omega⟩
  apply c_X7_isRow
  apply zL_of; rw [e_X7_isRow_0, ← zgd (show 8 < 2 ^ 31 by decide)]
  by_cases h0 : x < 0
  · rw [if_pos h0, if_pos h0]; rfl
  · rw [if_neg h0, if_neg h0]; exact zPo_ite rfl
theorem s_isThereC (hd : 1 ≤ d) (hI : zInv S M) : (zenv zbt d).1 122 [.ref 0] M = some (zbi (S 0 ≠ 0), M) := by
  obtain ⟨d, rfl⟩ : ∃ e, d = e + 1 := ⟨d - 1, by omega⟩
  have hn := hI.wf.n
  apply c_X7_isThere
  apply zL_of; rw [e_X7_isThere_0, hI.sh.2.1]
  by_cases h0 : S 0 = 0
  · rw [h0, if_pos (by decide), zbi_f (by simp)]; rfl
  · rw [if_neg (nI_nle (by omega) (by omega)), zbi_t h0]; rfl
theorem s_isEitherC (hd : 1 ≤ d) (x : Int32) : (zenv zbt d).1 128 [.int x] M = some (zbi (zin x 2 = true), M) := by
  obtain ⟨d, rfl⟩ : ∃ e, d = e + 1 := ⟨d - 1, by omega⟩
  have key : zbi (zin x 2 = true) = if x = 0 then 1 else if x = 1 then 1 else 0 := by
    by_cases h0 : x = 0
    · rw [if_pos h0, zbi_t]; rw [h0]; decide
    · rw [if_neg h0]
      by_cases h1 : x = 1
      · rw [if_pos h1, zbi_t]; rw [h1]; decide
      · rw [if_neg h1, zbi_f]
        intro q
        obtain ⟨j, hj, e⟩ := (zin_iff (by decide)).mp q
        have : j = 0 ∨ j = 1 := by omega
        rcases this with rfl | rfl
        · exact h0 e
        · exact h1 e
  apply c_X7_isEither
  apply zL_of; rw [e_X7_isEither_0, key]
  by_cases h0 : x = 0
  · rw [if_pos h0, if_pos h0]; rfl
  · rw [if_neg h0, if_neg h0]; exact zPo_ite rfl
theorem s_isCellM (hd : 2 ≤ d) (hI : zInv S M) (x : Int32) : (zenv zbt d).1 169 [.ref 66, .int x] M = some (zbi (zin x (S 0) = true), M) := by
  obtain ⟨d, rfl⟩ : ∃ e, d = e + 1 := ⟨d - 1, by omega⟩
  have hn := hI.wf.n
  apply c_X8_isCell
  apply zL_of; rw [e_X8_isCell_0, hI.md.1 0 (by decide), s_in (by omega), Option.bind_some]
  dsimp only
  rw [zck_t zbi_01, zbi_eq (zgm (show S 0 < 2 ^ 30 by omega))]; rfl
theorem s_isCustM (hd : 2 ≤ d) (hI : zInv S M) (x : Int32) : (zenv zbt d).1 170 [.ref 66, .int x] M = some (zbi (zin x (S 2) = true), M) := by
  obtain ⟨d, rfl⟩ : ∃ e, d = e + 1 := ⟨d - 1, by omega⟩
  have hn := hI.wf.m
  apply c_X8_isCustomer
  apply zL_of; rw [e_X8_isCustomer_0, hI.md.1 2 (by decide), s_in (by omega), Option.bind_some]
  dsimp only
  rw [zck_t zbi_01, zbi_eq (zgm (show S 2 < 2 ^ 30 by omega))]; rfl
theorem s_isRowM (hd : 2 ≤ d) (x : Int32) : (zenv zbt d).1 146 [.int x] M = some (zbi (zin x 8 = true), M) := by
  obtain ⟨d, rfl⟩ : ∃ e, d = e + 1 := ⟨d - 1, by omega⟩
  apply c_X8_isRow
  apply zL_of; rw [e_X8_isRow_0, s_in (by omega), Option.bind_some]
  dsimp only
  have h : ((0 : Int32) ≤ x ∧ x ≤ 7) ↔ zin x 8 = true := zgm (n := 8) (by decide)
  rw [zck_t zbi_01, zbi_eq h]; rfl
theorem zgm2 {x : Int32} : ((0 : Int32) ≤ x ∧ x ≤ 1) ↔ zin x 2 = true := zgm (n := 2) (by decide)
theorem a_status (hI : zInv S M) : zAl 119 230 [] M := by
  intro d hd
  obtain ⟨d, rfl⟩ : ∃ e, d = e + 1 := ⟨d - 1, by omega⟩
  refine ⟨M.1 0 9, M, M, S, ?_, ?_, hI⟩
  · apply c_X7_status
    apply zL_of; rw [e_X7_status_0]; rfl
  · apply c_X8_status
    apply zL_of; rw [e_X8_status_0, hI.mi.1]; rfl
theorem a_fault (hI : zInv S M) : zAl 86 166 [] M := by
  intro d hd
  obtain ⟨d, rfl⟩ : ∃ e, d = e + 1 := ⟨d - 1, by omega⟩
  refine ⟨M.1 18 6, M, M, S, ?_, ?_, hI⟩
  · apply c_X7_fault
    apply zL_of; rw [e_X7_fault_0]; rfl
  · apply c_X8_fault
    apply zL_of; rw [e_X8_fault_0, hI.mi.2.1]; rfl
theorem a_kind (hI : zInv S M) (x : Int32) : zAl 114 222 [.int x] M := by
  have hn := hI.wf.n
  refine zAl.of hI (r := if zin x (S 0) then nI (S (3 + x.toNatClampNeg)) else -1000001) (fun d hd => ⟨M, ?_, zFr.rf⟩) (fun d M hd hI => ⟨M, ?_, zFr.rf⟩)
  · obtain ⟨d, rfl⟩ : ∃ e, d = e + 1 := ⟨d - 1, by omega⟩
    apply c_X7_kind
    apply zL_of; rw [e_X7_kind_0, s_isCellC (by omega) hI, Option.bind_some]
    dsimp only
    cases hz : zin x (S 0)
    · rw [zbi_f (by decide), if_pos rfl]; rfl
    · obtain ⟨j, hj, rfl⟩ := (zin_iff (by omega)).mp hz
      rw [zbi_t rfl, if_neg zn10, zck_t (zinN (by omega) (by decide)), zcN (by omega), (hI.sh.2.2.2.2.2.2.2.2.1 j hj).2.1]; rfl
  · obtain ⟨d, rfl⟩ : ∃ e, d = e + 1 := ⟨d - 1, by omega⟩
    apply c_X8_kind
    apply zL_of; rw [e_X8_kind_0, s_isCellM (by omega) hI, Option.bind_some]
    dsimp only
    cases hz : zin x (S 0)
    · rw [zbi_f (by decide), if_pos rfl]; rfl
    · obtain ⟨j, hj, rfl⟩ := (zin_iff (by omega)).mp hz
      rw [zbi_t rfl, if_neg zn10]
      simp only [zlit, nI_add]
      rw [zck_t (zinN (by omega) (by decide)), hI.md.at (by omega), zcN (by omega)]; rfl
theorem a_ways (hI : zInv S M) (x : Int32) : zAl 101 202 [.int x] M := by
  have hm := hI.wf.m
  refine zAl.of hI (r := if zin x (S 2) then (if S (26 + x.toNatClampNeg) = 0 then nI (zways S x.toNatClampNeg) else -1000002) else -1000001) (fun d hd => ?_) (fun d M hd hI => ?_)
  · obtain ⟨d, rfl⟩ : ∃ e, d = e + 1 := ⟨d - 1, by omega⟩
    cases hz : zin x (S 2)
    · refine ⟨M, ?_, zFr.rf⟩
      apply c_X7_ways
      apply zL_of; rw [e_X7_ways_0, s_isCustC (by omega) hI, Option.bind_some]
      dsimp only
      rw [hz, zbi_f (by decide), if_pos rfl]; rfl
    · obtain ⟨j, hj, rfl⟩ := (zin_iff (by omega)).mp hz
      rw [zcN (by omega)]
      by_cases h0 : S (26 + j) = 0
      · obtain ⟨M1, e1, f1, p1⟩ := s_weigh (d := d) (by omega) (Or.inl rfl) hI.wf hI.sh hI.fi
        have hI1 := hI.fr (f1.mono (by decide))
        refine ⟨M1, ?_, f1.mono (by decide)⟩
        apply c_X7_ways
        apply zL_of; rw [e_X7_ways_0, s_isCustC (by omega) hI, Option.bind_some]
        dsimp only
        rw [hz, zbi_t rfl, if_neg zn10, s_isServed (by omega) (Or.inl rfl) hI.wf hI.sh hj, Option.bind_some]
        dsimp only
        rw [zbi_f (fun q => q h0), if_pos rfl, e1, Option.bind_some, s_countFor (by omega) (Or.inl rfl) hI.wf hI1.sh hI1.fi p1 hj, Option.bind_some, if_pos h0]
        rfl
      · refine ⟨M, ?_, zFr.rf⟩
        apply c_X7_ways
        apply zL_of; rw [e_X7_ways_0, s_isCustC (by omega) hI, Option.bind_some]
        dsimp only
        rw [hz, zbi_t rfl, if_neg zn10, s_isServed (by omega) (Or.inl rfl) hI.wf hI.sh hj, Option.bind_some]
        dsimp only
        rw [zbi_t h0, if_neg zn10, if_neg h0]; rfl
  · obtain ⟨d, rfl⟩ : ∃ e, d = e + 1 := ⟨d - 1, by omega⟩
    cases hz : zin x (S 2)
    · refine ⟨M, ?_, zFr.rf⟩
      apply c_X8_ways
      apply zL_of; rw [e_X8_ways_0, s_isCustM (by omega) hI, Option.bind_some]
      dsimp only
      rw [hz, zbi_f (by decide), if_pos rfl]; rfl
    · obtain ⟨j, hj, rfl⟩ := (zin_iff (by omega)).mp hz
      have hpc := hI.wf.pc (c := j) (by omega)
      rw [zcN (by omega)]
      by_cases h0 : S (26 + j) = 0
      · obtain ⟨M1, e1, f1, p1⟩ := s_surveys (d := d) (by omega) hI.wf hI.md
        have hI1 := hI.fr (f1.mono (by decide))
        have hp := zpow10 hI.wf.n
        have hp1 := Nat.two_pow_pos (S 0)
        have hB : zSv S M1 := fun s hs => by
          rw [p1 s hs]
          have hq := hI.wf.pay s
          have := zlhi (p := if zhang S s then zpay S s + 1 else 0) (c := 0) (by split <;> omega) (by decide)
          rw [Nat.add_zero] at this
          exact this
        refine ⟨M1, ?_, f1.mono (by decide)⟩
        have hE : zways S j = (List.range (2 ^ S 0)).foldl (fun a s => if zhang S s then zcG S j a s else a) 0 := (zfold_HL (fun a s _ => rfl)).symm
        have key : ∀ k, k ≤ 2 ^ S 0 → 0 < k → zL (zenv zbt d) tb_X8_ways cu_X8_ways 34 [some (.ref 66), some (.int (nI j)), some (.int (nI ((List.range k).foldl (fun a s => if zhang S s then zcG S j a s else a) 0))), some (.int (nI k))] [] M1 (some (.int (nI (zways S j))), M1) := by
          apply zup
          · intro _
            apply zL_of; rw [e_X8_ways_34, zsh1 hI1.wf hI1.md, if_pos (nI_le (Nat.le_refl _) (by omega)), hE]; rfl
          · intro k hk ih hk0
            have ih := ih (by omega)
            rw [zrange_succ] at ih
            apply zL_of; rw [e_X8_ways_34, zsh1 hI1.wf hI1.md, if_neg (nI_ge hk (by omega)), s_fitsFor (by omega) hI1.wf hI1.md hB hk hj, Option.bind_some]
            dsimp only
            by_cases hf : zhang S k = true ∧ zfit S j k = true
            · rw [zbi_t hf, if_neg zn10]
              apply zPo_go
              simpa only [zlit, nI_add, hf.1, zcG, hf.2, if_true] using ih
            · rw [zbi_f hf, if_pos rfl]
              apply zPo_go
              have e : ∀ a, (if zhang S k = true then zcG S j a k else a) = a + 0 := by
                intro a
                by_cases hz : zhang S k = true
                · rw [if_pos hz]
                  unfold zcG
                  rw [if_neg (fun q => hf ⟨hz, q⟩)]
                · rw [if_neg hz]; rfl
              rw [e] at ih
              simpa only [zlit, nI_add] using ih
        apply c_X8_ways
        apply zL_of; rw [e_X8_ways_0, s_isCustM (by omega) hI, Option.bind_some]
        dsimp only
        simp only [zlit, nI_add]
        rw [hz, zbi_t rfl, if_neg (show ¬ ((1 : Int32) = nI 0) by decide), zck_t (zinN (by omega) (by decide)), hI.md.at (by omega), h0, if_pos (by decide), e1, Option.bind_some, if_pos rfl]
        apply zPo_go
        have := key 1 (by omega) (by omega)
        have e0 : (List.range 1).foldl (fun a s => if zhang S s then zcG S j a s else a) 0 = 0 := by
          simp [List.range_succ, zhang]
        rw [e0] at this
        exact this
      · refine ⟨M, ?_, zFr.rf⟩
        apply c_X8_ways
        apply zL_of; rw [e_X8_ways_0, s_isCustM (by omega) hI, Option.bind_some]
        dsimp only
        simp only [zlit, nI_add]
        rw [hz, zbi_t rfl, if_neg (show ¬ ((1 : Int32) = nI 0) by decide), zck_t (zinN (by omega) (by decide)), hI.md.at (by omega), if_neg (show ¬ (nI (S (26 + j)) ≤ nI 0) from nI_nle (by omega) (by omega)), if_neg h0]; rfl
end ZX15

/-! Calls that read: customer, stand, cell, best -/
def zow (S : Nat → Nat) (x : Nat) : Nat → Int32
  | 0 => -1000000
  | k + 1 => if (S (26 + k)).testBit x then nI k else zow S x k
theorem zow_none {S : Nat → Nat} {x : Nat} : ∀ {n : Nat}, (∀ k, k < n → (S (26 + k)).testBit x = false) → zow S x n = -1000000
  | 0, _ => rfl
  | n + 1, h => by
    rw [zow, h n (by omega), if_neg (by decide)]
    exact zow_none (fun k hk => h k (by omega))
theorem zow_one {S : Nat → Nat} {x i : Nat} (hi : (S (26 + i)).testBit x = true) : ∀ {n : Nat}, i < n → (∀ k, k < n → k ≠ i → (S (26 + k)).testBit x = false) → zow S x n = nI i
  | 0, h, _ => by omega
  | n + 1, h, hk => by
    rw [zow]
    by_cases e : i = n
    · subst e; rw [if_pos hi]
    · rw [hk n (by omega) (fun q => e q.symm), if_neg (by decide)]
      exact zow_one hi (by omega) (fun k h1 h2 => hk k (by omega) h2)
theorem zdisj {S : Nat → Nat} (hW : zwf S) {i k x : Nat} (hi : i < 5) (hk : k < 5) (hne : k ≠ i) (h : (S (26 + i)).testBit x = true) : (S (26 + k)).testBit x = false := by
  have h1 := hW.2.2.2.2.2.2.2.2.1 k i hk hi hne
  have h2 := congrArg (fun z => z.testBit x) h1
  simp only [Nat.testBit_and, Nat.zero_testBit, h, Bool.and_true] at h2
  exact h2
section ZX16
variable {d : Nat} {M : ZM} {S : Nat → Nat} {b : Nat}
theorem s_ownerC (hd : 1 ≤ d) (hb : zsh b) (hW : zwf S) (hS : zSheet S b M) {c : Nat} (hc : c < 32) : (zenv zbt d).1 67 [.ref b, .int (nI c)] M = some (zow S c 5, M) := by
  obtain ⟨d, rfl⟩ : ∃ e, d = e + 1 := ⟨d - 1, by omega⟩
  have h2 := hS.2.2.1
  have hm := hS.2.2.2.2.2.2.2.2.2
  have hm5 := hW.m
  have key : ∀ i, i ≤ S 2 → (∀ k, k < i → (S (26 + k)).testBit c = false) → zL (zenv zbt d) tb_X5_ownerOf cu_X5_ownerOf 2 [some (.ref b), some (.int (nI c)), some (.int (nI i))] [] M (some (.int (zow S c 5)), M) := by
    apply zup
    · intro hn
      have e : zow S c 5 = -1000000 := zow_none (fun k hk => by
        by_cases h : k < S 2
        · exact hn k h
        · rw [(hW.2.2.2.2.2.2.2.1 k hk).2 (by omega), Nat.zero_testBit])
      apply zL_of; rw [e_X5_ownerOf_2 _ _ _ hb, h2, if_pos (nI_le (Nat.le_refl _) (by omega)), e]; rfl
    · intro i hi ih hn
      have hpc := hW.pc (c := i) (by omega)
      apply zL_of; rw [e_X5_ownerOf_2 _ _ _ hb, h2, if_neg (nI_ge hi (by omega)), zck_t (zinN (by omega) (by decide)), zcN (by omega), (hm i hi).2.2]
      cases ht : (S (26 + i)).testBit c
      · rw [if_pos ((zbit0 (by omega) hc).mpr ht)]
        apply zPo_go
        simpa only [zlit, nI_add] using ih (fun k hk => by
          by_cases e : k = i
          · rw [e]; exact ht
          · exact hn k (by omega))
      · rw [if_neg (fun q => by rw [zbit0 (by omega) hc, ht] at q; cases q), zow_one ht (by omega) (fun k hk hne => zdisj hW (by omega) hk hne ht)]
        rfl
  apply c_X5_ownerOf
  apply zL_of; rw [e_X5_ownerOf_0 _ _ _ hb]; apply zPo_go
  exact key 0 (by omega) (fun k hk => by omega)
theorem s_ownerM (hd : 2 ≤ d) (hW : zwf S) (hM : zMod S M) {c : Nat} (hc : c < 32) : (zenv zbt d).1 186 [.ref 66, .int (nI c)] M = some (zow S c 5, M) := by
  obtain ⟨d, rfl⟩ : ∃ e, d = e + 1 := ⟨d - 1, by omega⟩
  have key : ∀ i, i ≤ 5 → zL (zenv zbt d) tb_X8_ownerOf cu_X8_ownerOf 5 [some (.ref 66), some (.int (nI c)), some (.int (zow S c i)), some (.int (nI i))] [] M (some (.int (zow S c 5)), M) := by
    apply zup
    · apply zL_of; rw [e_X8_ownerOf_5, if_pos (by decide)]; rfl
    · intro i hi ih
      have hpc := hW.pc hi
      apply zL_of; rw [e_X8_ownerOf_5, if_neg (show ¬ ((5 : Int32) ≤ nI i) from nI_ge hi (by decide))]
      have e1 : (26 : Int32) + nI i = nI (26 + i) := nI_add 26 i
      rw [e1, zck_t (zinN (by omega) (by decide)), hM.at (by omega), s_has (by omega) (by omega) hc, Option.bind_some]
      dsimp only
      rw [zow] at ih
      cases ht : (S (26 + i)).testBit c
      · rw [zbi_f (by decide), if_pos rfl]
        apply zPo_go
        rw [ht, if_neg (by decide)] at ih
        simpa only [nI_1] using ih
      · rw [zbi_t rfl, if_neg zn10]
        apply zPo_go
        rw [ht, if_pos rfl] at ih
        simpa only [nI_1] using ih
  apply c_X8_ownerOf
  apply zL_of; rw [e_X8_ownerOf_0]; apply zPo_go
  exact key 0 (by omega)
theorem a_customer (hI : zInv S M) (x y : Int32) : zAl 94 188 [.int x, .int y] M := by
  have hm := hI.wf.m
  refine zAl.of hI (r := if zin x (S 2) then (if y = 0 then nI (S (13 + x.toNatClampNeg)) else if y = 1 then nI (S (18 + x.toNatClampNeg)) else if y = 2 then nI (S (26 + x.toNatClampNeg)) else -1000001) else -1000001) (fun d hd => ⟨M, ?_, zFr.rf⟩) (fun d M hd hI => ⟨M, ?_, zFr.rf⟩)
  · obtain ⟨d, rfl⟩ : ∃ e, d = e + 1 := ⟨d - 1, by omega⟩
    apply c_X7_customer
    apply zL_of; rw [e_X7_customer_0, s_isCustC (by omega) hI, Option.bind_some]
    dsimp only
    cases hz : zin x (S 2)
    · rw [zbi_f (by decide), if_pos rfl]; rfl
    · obtain ⟨j, hj, rfl⟩ := (zin_iff (by omega)).mp hz
      have hm2 := hI.sh.2.2.2.2.2.2.2.2.2 j hj
      rw [zbi_t rfl, if_neg zn10]
      simp only [zck_t (zinN (show j < 5 by omega) (by decide)), zcN (show j < 2 ^ 31 by omega), hm2.1, hm2.2.1, hm2.2.2]
      by_cases h0 : y = 0
      · simp only [h0, if_true]; rfl
      · by_cases h1 : y = 1
        · simp only [h1, if_neg (show ¬ ((1 : Int32) = 0) by decide), if_true]; rfl
        · by_cases h2 : y = 2
          · simp only [h2, if_neg (show ¬ ((2 : Int32) = 0) by decide), if_neg (show ¬ ((2 : Int32) = 1) by decide), if_true]; rfl
          · simp only [h0, h1, h2, if_false]; rfl
  · obtain ⟨d, rfl⟩ : ∃ e, d = e + 1 := ⟨d - 1, by omega⟩
    apply c_X8_customer
    apply zL_of; rw [e_X8_customer_0, s_isCustM (by omega) hI, Option.bind_some]
    dsimp only
    cases hz : zin x (S 2)
    · rw [zbi_f (by decide), if_pos rfl]; rfl
    · obtain ⟨j, hj, rfl⟩ := (zin_iff (by omega)).mp hz
      have e1 : (13 : Int32) + nI j = nI (13 + j) := nI_add 13 j
      have e2 : (18 : Int32) + nI j = nI (18 + j) := nI_add 18 j
      have e3 : (26 : Int32) + nI j = nI (26 + j) := nI_add 26 j
      rw [zbi_t rfl, if_neg zn10]
      simp only [e1, e2, e3, zck_t (zinN (show 13 + j < 41 by omega) (by decide)), zck_t (zinN (show 18 + j < 41 by omega) (by decide)), zck_t (zinN (show 26 + j < 41 by omega) (by decide)), hI.md.at (show 13 + j < 41 by omega), hI.md.at (show 18 + j < 41 by omega), hI.md.at (show 26 + j < 41 by omega), zcN (show j < 2 ^ 31 by omega)]
      by_cases h0 : y = 0
      · simp only [h0, if_true]; rfl
      · by_cases h1 : y = 1
        · simp only [h1, if_neg (show ¬ ((1 : Int32) = 0) by decide), if_true]; rfl
        · by_cases h2 : y = 2
          · simp only [h2, if_neg (show ¬ ((2 : Int32) = 0) by decide), if_neg (show ¬ ((2 : Int32) = 1) by decide), if_true]; rfl
          · simp only [h0, h1, h2, if_false]; rfl
theorem a_stand (hI : zInv S M) (y : Int32) : zAl 95 189 [.int y] M := by
  have hn := hI.wf.n
  refine zAl.of hI (r := if S 0 = 0 then -1000002 else if y = 0 then nI (zon S) else if y = 1 then nI (zserved S) else if y = 2 then nI (S 24) else if y = 3 then nI (S 23) else if y = 4 then nI (S 25) else -1000001) (fun d hd => ⟨M, ?_, zFr.rf⟩) (fun d M hd hI => ⟨M, ?_, zFr.rf⟩)
  · obtain ⟨d, rfl⟩ : ∃ e, d = e + 1 := ⟨d - 1, by omega⟩
    obtain ⟨h0, h1, h2, h3, h4, h5, h6, h7, -, -⟩ := hI.sh
    apply c_X7_stand
    apply zL_of; rw [e_X7_stand_0, s_isThereC (by omega) hI, Option.bind_some]
    dsimp only
    by_cases hz : S 0 = 0
    · rw [zbi_f (fun q => q hz), if_pos rfl, if_pos hz]; rfl
    · rw [zbi_t hz, if_neg zn10, if_neg hz]
      simp only [s_served (d := d) (by omega) (Or.inl rfl) hI.wf hI.sh, Option.bind_some, h3, h4, h5, h6]
      by_cases q0 : y = 0
      · simp only [q0, if_true]; rfl
      · by_cases q1 : y = 1
        · simp only [q1, if_neg (show ¬ ((1 : Int32) = 0) by decide), if_true]; rfl
        · by_cases q2 : y = 2
          · simp only [q0, q1, q2, if_false, if_neg (show ¬ ((2 : Int32) = 0) by decide), if_neg (show ¬ ((2 : Int32) = 1) by decide), if_true]; rfl
          · by_cases q3 : y = 3
            · simp only [q3, if_neg (show ¬ ((3 : Int32) = 0) by decide), if_neg (show ¬ ((3 : Int32) = 1) by decide), if_neg (show ¬ ((3 : Int32) = 2) by decide), if_true]; rfl
            · by_cases q4 : y = 4
              · simp only [q4, if_neg (show ¬ ((4 : Int32) = 0) by decide), if_neg (show ¬ ((4 : Int32) = 1) by decide), if_neg (show ¬ ((4 : Int32) = 2) by decide), if_neg (show ¬ ((4 : Int32) = 3) by decide), if_true]; rfl
              · simp only [q0, q1, q2, q3, q4, if_false]; rfl
  · obtain ⟨d, rfl⟩ : ∃ e, d = e + 1 := ⟨d - 1, by omega⟩
    apply c_X8_stand
    apply zL_of; rw [e_X8_stand_0, hI.md.1 0 (by decide)]
    by_cases hz : S 0 = 0
    · rw [if_pos (by rw [hz]; rfl), if_pos hz]; rfl
    · rw [if_neg (nI_ne0 (by omega) (by omega)), if_neg hz]
      simp only [s_on (d := d) (by omega) hI.wf hI.md, s_servedNow (d := d) (by omega) hI.wf hI.md, Option.bind_some, hI.md.1 23 (by decide), hI.md.1 24 (by decide), hI.md.1 25 (by decide)]
      by_cases q0 : y = 0
      · simp only [q0, if_true]; rfl
      · by_cases q1 : y = 1
        · simp only [q1, if_neg (show ¬ ((1 : Int32) = 0) by decide), if_true]; rfl
        · by_cases q2 : y = 2
          · simp only [q2, if_neg (show ¬ ((2 : Int32) = 0) by decide), if_neg (show ¬ ((2 : Int32) = 1) by decide), if_true]; rfl
          · by_cases q3 : y = 3
            · simp only [q3, if_neg (show ¬ ((3 : Int32) = 0) by decide), if_neg (show ¬ ((3 : Int32) = 1) by decide), if_neg (show ¬ ((3 : Int32) = 2) by decide), if_true]; rfl
            · by_cases q4 : y = 4
              · simp only [q4, if_neg (show ¬ ((4 : Int32) = 0) by decide), if_neg (show ¬ ((4 : Int32) = 1) by decide), if_neg (show ¬ ((4 : Int32) = 2) by decide), if_neg (show ¬ ((4 : Int32) = 3) by decide), if_true]; rfl
              · simp only [q0, q1, q2, q3, q4, if_false]; rfl
theorem zon_sp (hW : zwf S) {c : Nat} (h : (zon S).testBit c = true) : (S 25).testBit c = false := by
  unfold zon zgone at h
  rw [zdif_bit, Bool.and_eq_true] at h
  have h2 := h.2
  simp only [Nat.testBit_or, Bool.not_eq_true', Bool.or_eq_false_iff] at h2
  exact h2.1.1.1.1.1
theorem a_cell (hI : zInv S M) (x y : Int32) : zAl 93 187 [.int x, .int y] M := by
  have hn := hI.wf.n
  have hsp := hI.wf.sp
  have hon := hI.wf.on
  refine zAl.of hI (r := if zin x (S 0) then (if y = 0 then nI (S (31 + x.toNatClampNeg)) else if y = 1 then nI (if (zon S).testBit x.toNatClampNeg then 0 else if (S 25).testBit x.toNatClampNeg then 2 else 1) else if y = 2 then nI (znx (S 1) (S 0) x.toNatClampNeg &&& zon S) else if y = 3 then zow S x.toNatClampNeg 5 else -1000001) else -1000001) (fun d hd => ⟨M, ?_, zFr.rf⟩) (fun d M hd hI => ⟨M, ?_, zFr.rf⟩)
  · obtain ⟨d, rfl⟩ : ∃ e, d = e + 1 := ⟨d - 1, by omega⟩
    obtain ⟨h0, h1, h2, h3, h4, h5, h6, h7, hc, -⟩ := hI.sh
    apply c_X7_cell
    apply zL_of; rw [e_X7_cell_0, s_isCellC (by omega) hI, Option.bind_some]
    dsimp only
    cases hz : zin x (S 0)
    · rw [zbi_f (by decide), if_pos rfl]; rfl
    · obtain ⟨j, hj, rfl⟩ := (zin_iff (by omega)).mp hz
      rw [zbi_t rfl, if_neg zn10]
      have hc2 := hc j hj
      simp only [zck_t (zinN (show j < 10 by omega) (by decide)), zcN (show j < 2 ^ 31 by omega), hc2.1, hc2.2.2, h5, zand, s_howIs (d := d) (by omega) (Or.inl rfl) hI.wf hI.sh (show j < 32 by omega), s_ownerC (d := d) (by omega) (Or.inl rfl) hI.wf hI.sh (show j < 32 by omega), Option.bind_some]
      by_cases q0 : y = 0
      · simp only [q0, if_true]; rfl
      · by_cases q1 : y = 1
        · simp only [q1, if_neg (show ¬ ((1 : Int32) = 0) by decide), if_true]; rfl
        · by_cases q2 : y = 2
          · simp only [q2, if_neg (show ¬ ((2 : Int32) = 0) by decide), if_neg (show ¬ ((2 : Int32) = 1) by decide), if_true]; rfl
          · by_cases q3 : y = 3
            · simp only [q3, if_neg (show ¬ ((3 : Int32) = 0) by decide), if_neg (show ¬ ((3 : Int32) = 1) by decide), if_neg (show ¬ ((3 : Int32) = 2) by decide), if_true]; rfl
            · simp only [q0, q1, q2, q3, if_false]; rfl
  · obtain ⟨d, rfl⟩ : ∃ e, d = e + 1 := ⟨d - 1, by omega⟩
    apply c_X8_cell
    apply zL_of; rw [e_X8_cell_0, s_isCellM (by omega) hI, Option.bind_some]
    dsimp only
    cases hz : zin x (S 0)
    · rw [zbi_f (by decide), if_pos rfl]; rfl
    · obtain ⟨j, hj, rfl⟩ := (zin_iff (by omega)).mp hz
      have e1 : (31 : Int32) + nI j = nI (31 + j) := nI_add 31 j
      rw [zbi_t rfl, if_neg zn10]
      simp only [e1, zck_t (zinN (show 31 + j < 41 by omega) (by decide)), zck_t (zinN (show j < 10 by omega) (by decide)), hI.md.at (show 31 + j < 41 by omega), zcN (show j < 2 ^ 31 by omega), hI.md.1 25 (by decide), hI.md.2 j hj, s_has (d := d) (by omega) (show S 25 < 2 ^ 31 by omega) (show j < 32 by omega), s_has (d := d) (by omega) (show zon S < 2 ^ 31 by omega) (show j < 32 by omega), s_on (d := d) (by omega) hI.wf hI.md, s_ownerM (d := d) (by omega) hI.wf hI.md (show j < 32 by omega), zand, Option.bind_some]
      by_cases q0 : y = 0
      · simp only [q0, if_true]; rfl
      · by_cases q1 : y = 1
        · simp only [q1, if_neg (show ¬ ((1 : Int32) = 0) by decide), if_true]
          cases t1 : (zon S).testBit j
          · cases t2 : (S 25).testBit j
            · simp only [zbi_f (show ¬ (false = true) by decide), if_true]; rfl
            · simp only [zbi_True, if_neg zn10]; rfl
          · have t2 := zon_sp hI.wf t1
            simp only [t2, zbi_True, zbi_f (show ¬ (false = true) by decide), if_true, if_neg zn10]; rfl
        · by_cases q2 : y = 2
          · simp only [q2, if_neg (show ¬ ((2 : Int32) = 0) by decide), if_neg (show ¬ ((2 : Int32) = 1) by decide), if_true]; rfl
          · by_cases q3 : y = 3
            · simp only [q3, if_neg (show ¬ ((3 : Int32) = 0) by decide), if_neg (show ¬ ((3 : Int32) = 1) by decide), if_neg (show ¬ ((3 : Int32) = 2) by decide), if_true]; rfl
            · simp only [q0, q1, q2, q3, if_false]; rfl
end ZX16

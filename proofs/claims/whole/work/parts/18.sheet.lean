/-! The class's sheet: what is read off it -/
section ZX5
variable {d : Nat} {M : ZM} {S : Nat → Nat} {b : Nat}
theorem s_isOn (hd : 1 ≤ d) (hb : zsh b) (hW : zwf S) (hS : zSheet S b M) {c : Nat} (hc : c < 32) : (zenv zbt d).1 61 [.ref b, .int (nI c)] M = some (zbi ((zon S).testBit c = true), M) := by
  obtain ⟨d, rfl⟩ : ∃ e, d = e + 1 := ⟨d - 1, by omega⟩
  obtain ⟨h0, h1, h2, h3, h4, h5, h6, h7, hn, hm⟩ := hS
  have := hW.on
  apply c_X5_isOn
  apply zL_of; rw [e_X5_isOn_0 _ _ _ hb, h5]
  cases h : (zon S).testBit c
  · rw [if_pos ((zbit0 (by omega) hc).mpr h), zbi_f (by decide)]; rfl
  · rw [if_neg (fun q => by rw [zbit0 (by omega) hc, h] at q; cases q), zbi_t rfl]; rfl
theorem zdif_0 {a b : Nat} : zdif a b = 0 ↔ ∀ i, a.testBit i = true → b.testBit i = true := by
  constructor
  · intro h i hi
    have := zdif_bit a b i
    rw [h, Nat.zero_testBit, hi, Bool.true_and] at this
    cases hb : b.testBit i
    · rw [hb] at this; cases this
    · rfl
  · intro h
    apply Nat.eq_of_testBit_eq
    intro i
    rw [zdif_bit, Nat.zero_testBit]
    cases ha : a.testBit i
    · rfl
    · rw [h i ha]; rfl
theorem s_holds (hd : 1 ≤ d) (hb : zsh b) (hW : zwf S) (hS : zSheet S b M) {a : Nat} (ha : a < 2 ^ 31) : (zenv zbt d).1 62 [.ref b, .int (nI a)] M = some (zbi (zdif a (zon S) = 0), M) := by
  obtain ⟨d, rfl⟩ : ∃ e, d = e + 1 := ⟨d - 1, by omega⟩
  obtain ⟨h0, h1, h2, h3, h4, h5, h6, h7, hn, hm⟩ := hS
  have hlt : zdif a (zon S) < 2 ^ 31 := Nat.lt_of_le_of_lt (zdif_le _ _) ha
  apply c_X5_holds
  apply zL_of; rw [e_X5_holds_0 _ _ _ hb, h5, zandn (by omega)]
  by_cases h : zdif a (zon S) = 0
  · rw [if_pos (by rw [h]; rfl), zbi_t h]; rfl
  · rw [if_neg (nI_ne0 (by omega) hlt), zbi_f h]; rfl
theorem s_isServed (hd : 1 ≤ d) (hb : zsh b) (hW : zwf S) (hS : zSheet S b M) {c : Nat} (hc : c < S 2) : (zenv zbt d).1 63 [.ref b, .int (nI c)] M = some (zbi (S (26 + c) ≠ 0), M) := by
  obtain ⟨d, rfl⟩ : ∃ e, d = e + 1 := ⟨d - 1, by omega⟩
  obtain ⟨h0, h1, h2, h3, h4, h5, h6, h7, hn, hm⟩ := hS
  have hm5 := hW.m
  have hlt := hW.pc (c := c) (by omega)
  apply c_X5_isServed
  apply zL_of; rw [e_X5_isServed_0 _ _ _ hb, zck_t (zinN (by omega) (by decide)), zcN (by omega), (hm c hc).2.2]
  by_cases h : S (26 + c) = 0
  · rw [if_pos (by rw [h]; rfl), zbi_f (fun q => q h)]; rfl
  · rw [if_neg (nI_ne0 (by omega) (by omega)), zbi_t h]; rfl
theorem s_suits (hd : 1 ≤ d) (hb : zsh b) (hW : zwf S) (hS : zSheet S b M) {c a : Nat} (hc : c < S 2) (ha : a < 2 ^ 31) : (zenv zbt d).1 64 [.ref b, .int (nI c), .int (nI a)] M = some (zbi (S (13 + c) ≤ a ∧ a ≤ S (18 + c)), M) := by
  obtain ⟨d, rfl⟩ : ∃ e, d = e + 1 := ⟨d - 1, by omega⟩
  obtain ⟨h0, h1, h2, h3, h4, h5, h6, h7, hn, hm⟩ := hS
  have hm5 := hW.m
  have hl := hW.2.2.2.2.2.1 c hc
  apply c_X5_suits
  apply zL_of; rw [e_X5_suits_0 _ _ _ hb, zck_t (zinN (by omega) (by decide)), zck_t (zinN (by omega) (by decide)), zcN (by omega), (hm c hc).1, (hm c hc).2.1]
  by_cases h : a < S (13 + c)
  · rw [if_pos ((nI_ltI (by omega) (by omega)).mpr h), zbi_f (by omega)]; rfl
  · rw [if_neg (fun q => h ((nI_ltI (by omega) (by omega)).mp q))]
    by_cases h2 : S (18 + c) < a
    · rw [if_pos ((nI_ltI (by omega) (by omega)).mpr h2), zbi_f (by omega)]; rfl
    · rw [if_neg (fun q => h2 ((nI_ltI (by omega) (by omega)).mp q)), zbi_t (by omega)]; rfl
theorem s_served (hd : 2 ≤ d) (hb : zsh b) (hW : zwf S) (hS : zSheet S b M) : (zenv zbt d).1 65 [.ref b] M = some (nI (zserved S), M) := by
  obtain ⟨d, rfl⟩ : ∃ e, d = e + 1 := ⟨d - 1, by omega⟩
  have h2 := hS.2.2.1
  have hm5 := hW.m
  have key : ∀ i, i ≤ S 2 → zL (zenv zbt d) tb_X5_served cu_X5_served 4 [some (.ref b), some (.int (nI (zors (fun c => if S (26 + c) = 0 then 0 else 2 ^ c) i))), some (.int (nI i))] [] M (some (.int (nI (zserved S))), M) := by
    apply zup
    · apply zL_of; rw [e_X5_served_4 _ _ _ hb, h2, if_pos (nI_le (Nat.le_refl _) (by omega))]; rfl
    · intro i hi ih
      apply zL_of; rw [e_X5_served_4 _ _ _ hb, h2, if_neg (nI_ge hi (by omega)), s_isServed (by omega) hb hW hS hi, Option.bind_some]
      by_cases h : S (26 + i) = 0
      · rw [zbi_f (fun q => q h), if_pos rfl]
        apply zPo_go
        simpa only [zlit, nI_add, zor, zors, h, if_true, Nat.or_zero] using ih
      · rw [zbi_t h, if_neg zn10]
        apply zPo_go
        rw [zlit, zshl1 (by omega)]
        simpa only [nI_add, zor, zors, if_neg h] using ih
  apply c_X5_served
  apply zL_of; rw [e_X5_served_0 _ _ _ hb]; apply zPo_go
  exact key 0 (by omega)
theorem s_howIs (hd : 2 ≤ d) (hb : zsh b) (hW : zwf S) (hS : zSheet S b M) {c : Nat} (hc : c < 32) : (zenv zbt d).1 66 [.ref b, .int (nI c)] M = some (nI (if (zon S).testBit c then 0 else if (S 25).testBit c then 2 else 1), M) := by
  obtain ⟨d, rfl⟩ : ∃ e, d = e + 1 := ⟨d - 1, by omega⟩
  have h6 := hS.2.2.2.2.2.2.1
  have := hW.sp
  apply c_X5_howIs
  apply zL_of; rw [e_X5_howIs_0 _ _ _ hb, s_isOn (by omega) hb hW hS hc, Option.bind_some]
  cases h : (zon S).testBit c
  · rw [zbi_f (by decide), if_pos rfl]
    dsimp only
    rw [h6]
    cases h2 : (S 25).testBit c
    · rw [if_pos ((zbit0 (by omega) hc).mpr h2)]; rfl
    · rw [if_neg (fun q => by rw [zbit0 (by omega) hc, h2] at q; cases q)]; rfl
  · rw [zbi_t rfl, if_neg zn10]; rfl
theorem s_payOfStamp (hd : 2 ≤ d) (hb : zsh b) (hW : zwf S) (hS : zSheet S b M) {c a : Nat} (hc : c < S 0) (ha : a < 1024) : (zenv zbt d).1 69 [.ref b, .int (nI c), .int (nI a)] M = some (nI (zone S c a), M) := by
  obtain ⟨d, rfl⟩ : ∃ e, d = e + 1 := ⟨d - 1, by omega⟩
  obtain ⟨h0, h1, h2, h3, h4, h5, h6, h7, hn, hm⟩ := hS
  have hn10 := hW.n
  have hnx := hW.nx' hc
  obtain ⟨k1, k2, k3⟩ := hW.2.2.2.1 c hc
  have hp : (znx (S 1) (S 0) c &&& a) &&& zair S < 1024 := Nat.and_lt_two_pow _ (n := 10) hW.air
  apply c_X5_payOfStamp
  apply zL_of; rw [e_X5_payOfStamp_0 _ _ _ hb, zck_t (zinN (by omega) (by decide))]
  simp only [zck_t (zinN (show c < 10 by omega) (by decide)), zcN (show c < 2 ^ 31 by omega), (hn c hc).1, (hn c hc).2.1, (hn c hc).2.2, h3, h7, zand, zlit, s_bitCount (d := d) (by omega) hp, Option.bind_some]
  have hk : S (3 + c) = 1 ∨ S (3 + c) = 2 ∨ S (3 + c) = 3 ∨ S (3 + c) = 4 ∨ S (3 + c) = 5 := by omega
  rcases hk with h | h | h | h | h
  · rw [h, if_pos rfl]
    simp [zone, h, zPo]
  · rw [h, if_neg (by decide), if_pos rfl]
    simp [zone, h, zPo, nI_add]
  · rw [h, if_neg (by decide), if_neg (by decide), if_pos rfl, pk_div (by omega) (by decide) (by decide)]
    simp [zone, h, zPo]
  · rw [h, if_neg (by decide), if_neg (by decide), if_neg (by decide), if_pos rfl]
    simp [zone, h, zPo, pk_mul]
  · rw [h, if_neg (by decide), if_neg (by decide), if_neg (by decide), if_neg (by decide), if_pos rfl]
    simp [zone, h, zPo, pk_mul, nI_add]
theorem s_paysOf (hd : 3 ≤ d) (hb : zsh b) (hW : zwf S) (hS : zSheet S b M) {a : Nat} (ha : a < 1024) : (zenv zbt d).1 68 [.ref b, .int (nI a)] M = some (nI (zpay S a), M) := by
  obtain ⟨d, rfl⟩ : ∃ e, d = e + 1 := ⟨d - 1, by omega⟩
  have h1 := hS.2.1
  have hn10 := hW.n
  have key : ∀ i, i ≤ S 0 → zL (zenv zbt d) tb_X5_paysOf cu_X5_paysOf 4 [some (.ref b), some (.int (nI a)), some (.int (nI (zsum (fun c => if a.testBit c then zone S c a else 0) i))), some (.int (nI i))] [] M (some (.int (nI (zpay S a))), M) := by
    apply zup
    · apply zL_of; rw [e_X5_paysOf_4 _ _ _ hb, h1, if_pos (nI_le (Nat.le_refl _) (by omega))]; rfl
    · intro i hi ih
      apply zL_of; rw [e_X5_paysOf_4 _ _ _ hb, h1, if_neg (nI_ge hi (by omega))]
      cases h : a.testBit i
      · rw [if_pos ((zbit0 (by omega) (by omega)).mpr h)]
        apply zPo_go
        simpa only [zlit, nI_add, zsum, h, Bool.false_eq_true, if_false] using ih
      · rw [if_neg (fun q => by rw [zbit0 (by omega) (by omega), h] at q; cases q), s_payOfStamp (by omega) hb hW hS hi ha, Option.bind_some]
        apply zPo_go
        simpa only [zlit, nI_add, zsum, h, if_true] using ih
  apply c_X5_paysOf
  apply zL_of; rw [e_X5_paysOf_0 _ _ _ hb]; apply zPo_go
  exact key 0 (by omega)
theorem s_tearsOf (hd : 2 ≤ d) (hb : zsh b) (hW : zwf S) (hS : zSheet S b M) {a : Nat} (ha : a < 1024) : (zenv zbt d).1 70 [.ref b, .int (nI a)] M = some (nI (ztear S (zon S) a), M) := by
  obtain ⟨d, rfl⟩ : ∃ e, d = e + 1 := ⟨d - 1, by omega⟩
  obtain ⟨h0, h1, h2, h3, h4, h5, h6, h7, hn, hm⟩ := hS
  have hn10 := hW.n
  have key : ∀ i, i ≤ S 0 → zL (zenv zbt d) tb_X5_tearsOf cu_X5_tearsOf 4 [some (.ref b), some (.int (nI a)), some (.int (nI (zsum (fun c => if a.testBit c then zpop (zdif (znx (S 1) (S 0) c &&& zon S) a) else 0) i))), some (.int (nI i))] [] M (some (.int (nI (ztear S (zon S) a))), M) := by
    apply zup
    · apply zL_of; rw [e_X5_tearsOf_4 _ _ _ hb, h1, if_pos (nI_le (Nat.le_refl _) (by omega))]; rfl
    · intro i hi ih
      apply zL_of; rw [e_X5_tearsOf_4 _ _ _ hb, h1, if_neg (nI_ge hi (by omega))]
      cases h : a.testBit i
      · rw [if_pos ((zbit0 (by omega) (by omega)).mpr h)]
        apply zPo_go
        simpa only [zlit, nI_add, zsum, h, Bool.false_eq_true, if_false] using ih
      · have hlt : znx (S 1) (S 0) i &&& zon S < 2 ^ 10 := Nat.and_lt_two_pow _ hW.on
        rw [if_neg (fun q => by rw [zbit0 (by omega) (by omega), h] at q; cases q), zck_t (zinN (by omega) (by decide)), zcN (by omega), (hn i hi).1, h5, zand, zandn (by omega), s_bitCount (by omega) (zdif_lt (k := 10) hlt), Option.bind_some]
        apply zPo_go
        simpa only [zlit, nI_add, zsum, h, if_true] using ih
  apply c_X5_tearsOf
  apply zL_of; rw [e_X5_tearsOf_0 _ _ _ hb]; apply zPo_go
  exact key 0 (by omega)
theorem s_nextTo (hd : 1 ≤ d) (hb : zsh b) (hW : zwf S) (hS : zSheet S b M) {a : Nat} (ha : a < 1024) : (zenv zbt d).1 71 [.ref b, .int (nI a)] M = some (nI (znb S a), M) := by
  obtain ⟨d, rfl⟩ : ∃ e, d = e + 1 := ⟨d - 1, by omega⟩
  obtain ⟨h0, h1, h2, h3, h4, h5, h6, h7, hn, hm⟩ := hS
  have hn10 := hW.n
  have key : ∀ i, i ≤ S 0 → zL (zenv zbt d) tb_X5_nextTo cu_X5_nextTo 4 [some (.ref b), some (.int (nI a)), some (.int (nI (zors (fun c => if a.testBit c then znx (S 1) (S 0) c else 0) i))), some (.int (nI i))] [] M (some (.int (nI (znb S a))), M) := by
    apply zup
    · apply zL_of; rw [e_X5_nextTo_4 _ _ _ hb, h1, if_pos (nI_le (Nat.le_refl _) (by omega))]; rfl
    · intro i hi ih
      apply zL_of; rw [e_X5_nextTo_4 _ _ _ hb, h1, if_neg (nI_ge hi (by omega))]
      cases h : a.testBit i
      · rw [if_pos ((zbit0 (by omega) (by omega)).mpr h)]
        apply zPo_go
        simpa only [zlit, nI_add, zor, zors, h, Bool.false_eq_true, if_false] using ih
      · rw [if_neg (fun q => by rw [zbit0 (by omega) (by omega), h] at q; cases q), zck_t (zinN (by omega) (by decide)), zcN (by omega), (hn i hi).1]
        apply zPo_go
        simpa only [zlit, nI_add, zor, zors, h, if_true] using ih
  apply c_X5_nextTo
  apply zL_of; rw [e_X5_nextTo_0 _ _ _ hb]; apply zPo_go
  exact key 0 (by omega)
end ZX5

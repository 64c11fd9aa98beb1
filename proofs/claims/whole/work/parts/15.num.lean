/-! Numbers: the machine's ints as natural numbers -/
theorem zlit (k : Nat) : (@OfNat.ofNat Int32 k _) = nI k := rfl
theorem zneg1 : (-1 : Int32) = nI 4294967295 := by decide
theorem nI_bv (a : Nat) : (nI a).toBitVec = BitVec.ofNat 32 a := rfl
theorem nI_inj {x y : Int32} (h : x.toBitVec = y.toBitVec) : x = y := Int32.toBitVec_inj.mp h
theorem zand (a b : Nat) : nI a &&& nI b = nI (a &&& b) := nI_inj (by
  rw [Int32.toBitVec_and, nI_bv, nI_bv, nI_bv]
  apply BitVec.eq_of_getLsbD_eq
  intro i hi
  simp [BitVec.getLsbD_and, BitVec.getLsbD_ofNat, hi])
theorem zor (a b : Nat) : nI a ||| nI b = nI (a ||| b) := nI_inj (by
  rw [Int32.toBitVec_or, nI_bv, nI_bv, nI_bv]
  apply BitVec.eq_of_getLsbD_eq
  intro i hi
  simp [BitVec.getLsbD_or, BitVec.getLsbD_ofNat, hi])
theorem zxor (a b : Nat) : nI a ^^^ nI b = nI (a ^^^ b) := nI_inj (by
  rw [Int32.toBitVec_xor, nI_bv, nI_bv, nI_bv]
  apply BitVec.eq_of_getLsbD_eq
  intro i hi
  simp [BitVec.getLsbD_xor, BitVec.getLsbD_ofNat, hi])
theorem zcnt : ∀ c, c < 32 → ((nI c &&& 31).toBitVec.smod 32).toNat = c := by decide +kernel
theorem zshlN {a c : Nat} (hc : c < 32) : zshl (nI a) (nI c) = nI (a * 2 ^ c) := by
  apply nI_inj
  apply BitVec.eq_of_toNat_eq
  unfold zshl
  rw [pk_shl (nI a) (nI c &&& 31) c (zcnt c hc), nI_bv, nI_bv, BitVec.toNat_ofNat, BitVec.toNat_ofNat, Nat.mod_mul_mod]
theorem zshl1 {c : Nat} (hc : c < 32) : zshl (nI 1) (nI c) = nI (2 ^ c) := by rw [zshlN hc, Nat.one_mul]
theorem zshrN {a c : Nat} (ha : a < 2 ^ 31) (hc : c < 32) : zshr (nI a) (nI c) = nI (a / 2 ^ c) := pk_shrN ha _ c (zcnt c hc)
/-- the bits of a that b has not -/
def zdif (a b : Nat) : Nat := a ^^^ (a &&& b)
theorem zdif_bit (a b i : Nat) : (zdif a b).testBit i = (a.testBit i && !b.testBit i) := by
  simp only [zdif, Nat.testBit_xor, Nat.testBit_and]
  cases a.testBit i <;> cases b.testBit i <;> rfl
theorem zdif_le (a b : Nat) : zdif a b ≤ a := by
  have e : a &&& zdif a b = zdif a b := by
    apply Nat.eq_of_testBit_eq
    intro i
    rw [Nat.testBit_and, zdif_bit]
    cases a.testBit i <;> rfl
  rw [← e]
  exact Nat.and_le_left
theorem zandn {a b : Nat} (ha : a < 2 ^ 32) : nI a &&& (nI b ^^^ (-1)) = nI (zdif a b) := by
  rw [zneg1, zxor, zand]
  congr 1
  apply Nat.eq_of_testBit_eq
  intro i
  rw [zdif_bit, Nat.testBit_and, Nat.testBit_xor]
  cases h : a.testBit i
  · rfl
  · have hi : i < 32 := by
      refine Nat.lt_of_not_le fun q => ?_
      rw [Nat.testBit_lt_two_pow (Nat.lt_of_lt_of_le ha (Nat.pow_le_pow_right (by decide) q))] at h
      cases h
    have : (4294967295 : Nat).testBit i = true := by
      rw [show (4294967295 : Nat) = 2 ^ 32 - 1 by rfl, Nat.testBit_two_pow_sub_one]
      simpa using hi
    rw [this]
    cases b.testBit i <;> rfl
theorem zbitN {a c : Nat} (ha : a < 2 ^ 31) (hc : c < 32) : zshr (nI a) (nI c) &&& 1 = nI (a.testBit c).toNat := by
  rw [zshrN ha hc, zlit, zand]
  congr 1
  rw [Nat.testBit_eq_decide_div_mod_eq, Nat.and_one_is_mod]
  by_cases h : a / 2 ^ c % 2 = 1
  · simp [h]
  · have : a / 2 ^ c % 2 = 0 := by omega
    simp [this]
theorem zbit0 {a c : Nat} (ha : a < 2 ^ 31) (hc : c < 32) : (zshr (nI a) (nI c) &&& 1 = 0) ↔ a.testBit c = false := by
  rw [zbitN ha hc]
  cases a.testBit c <;> decide
theorem zbit1 {a c : Nat} (ha : a < 2 ^ 31) (hc : c < 32) : (zshr (nI a) (nI c) &&& 1 = 1) ↔ a.testBit c = true := by
  rw [zbitN ha hc]
  cases a.testBit c <;> decide
theorem zcN {a : Nat} (h : a < 2 ^ 31) : (nI a).toNatClampNeg = a := nI_clamp h
theorem zinN {a n : Nat} (h : a < n) (hn : n < 2 ^ 31) : zin (nI a) n = true := by
  have h1 : a < 2 ^ 31 := by omega
  simp only [zin, Bool.and_eq_true, Bool.not_eq_true', decide_eq_false_iff_not, decide_eq_true_eq]
  exact ⟨nI_pos h1, by rw [nI_clamp h1]; exact h⟩
theorem zin_iff {x : Int32} {n : Nat} (hn : n < 2 ^ 31) : zin x n = true ↔ ∃ j, j < n ∧ x = nI j := by
  constructor
  · intro h
    exact vp_in_of (zin_in h) hn
  · rintro ⟨j, hj, rfl⟩
    exact zinN hj hn
theorem zw_at (M : ZM) (c k : Nat) (v : Int32) (c' k' : Nat) : (zw M c k v).1 c' k' = if c' = c ∧ k' = k then v else M.1 c' k' := by
  simp only [zw]
  by_cases h : c' = c
  · subst h
    by_cases h2 : k' = k
    · simp [upd, h2]
    · simp [upd, h2]
  · simp [h]
theorem zw_l (M : ZM) (c k : Nat) (v : Int32) : (zw M c k v).2 = M.2 := rfl
theorem zwl_at (M : ZM) (c k : Nat) (v : Int64) (c' k' : Nat) : (zwl M c k v).2 c' k' = if c' = c ∧ k' = k then v else M.2 c' k' := by
  simp only [zwl]
  by_cases h : c' = c
  · subst h
    by_cases h2 : k' = k
    · simp [vp_updL, h2]
    · simp [vp_updL, h2]
  · simp [h]
theorem zwl_i (M : ZM) (c k : Nat) (v : Int64) : (zwl M c k v).1 = M.1 := rfl
theorem zcp_at (M : ZM) (a sp b dp n c' k' : Nat) : (zcp M a sp b dp n).1 c' k' = if c' = b ∧ dp ≤ k' ∧ k' < dp + n then M.1 a (sp + (k' - dp)) else M.1 c' k' := by
  simp only [zcp]
  by_cases h : c' = b
  · subst h
    by_cases h2 : dp ≤ k' ∧ k' < dp + n
    · simp [va_cpy, h2]
    · simp only [va_cpy, h2, if_true, true_and, if_false]
  · simp [h]
theorem zcp_l (M : ZM) (a sp b dp n : Nat) : (zcp M a sp b dp n).2 = M.2 := rfl
/-- a loop that counts up: from the last pass back -/
theorem zup {P : Nat → Prop} {n : Nat} (h0 : P n) (hs : ∀ i, i < n → P (i + 1) → P i) : ∀ i, i ≤ n → P i := by
  intro i hi
  obtain ⟨k, hk⟩ : ∃ k, i + k = n := ⟨n - i, by omega⟩
  induction k generalizing i with
  | zero => have : i = n := by omega
            subst this
            exact h0
  | succ k ih => exact hs i (by omega) (ih (i + 1) (by omega) (by omega))

/-! The JDK's bits, greater and lesser; the reference's smallest methods -/
def zlowF (a : Nat) : Nat → Nat → Nat
  | 0, i => i
  | k + 1, i => if a.testBit i then i else zlowF a k (i + 1)
/-- the least bit -/
def zlow (a : Nat) : Nat := zlowF a 10 0
def zbcF (x : Int32) : Int32 :=
  let x1 := x - ((zushr x 1) &&& 1431655765)
  let x2 := (x1 &&& 858993459) + ((zushr x1 2) &&& 858993459)
  let x3 := (x2 + (zushr x2 4)) &&& 252645135
  let x4 := x3 + (zushr x3 8)
  let x5 := x4 + (zushr x4 16)
  x5 &&& 63
theorem zbcF_eq : ∀ a, a < 1024 → zbcF (nI a) = nI (zpop a) := by decide +kernel
theorem zlob_eq : ∀ a, a < 1024 → a ≠ 0 → nI a &&& (-(nI a)) = nI (2 ^ zlow a) := by decide +kernel
theorem zlow_lt : ∀ a, a < 1024 → a ≠ 0 → zlow a < 10 ∧ a.testBit (zlow a) = true ∧ ∀ i, i < zlow a → a.testBit i = false := by decide +kernel
section ZJ
variable {d : Nat} {M : ZM}
theorem s_bitCount (hd : 1 ≤ d) {a : Nat} (ha : a < 1024) : (zenv zbt d).1 233 [.int (nI a)] M = some (nI (zpop a), M) := by
  obtain ⟨d, rfl⟩ : ∃ e, d = e + 1 := ⟨d - 1, by omega⟩
  apply c_J6_bitCount_0f7a4
  apply zL_of; rw [e_J6_bitCount_0f7a4_0]; apply zPo_go
  apply zL_of; rw [e_J6_bitCount_0f7a4_10]; apply zPo_go
  apply zL_of; rw [e_J6_bitCount_0f7a4_24]; apply zPo_go
  apply zL_of; rw [e_J6_bitCount_0f7a4_34]; apply zPo_go
  apply zL_of; rw [e_J6_bitCount_0f7a4_41]; apply zPo_go
  apply zL_of; rw [e_J6_bitCount_0f7a4_48, ← zbcF_eq a ha]
  rfl
theorem s_lowestOneBit (hd : 1 ≤ d) {a : Nat} (ha : a < 1024) (h0 : a ≠ 0) : (zenv zbt d).1 231 [.int (nI a)] M = some (nI (2 ^ zlow a), M) := by
  obtain ⟨d, rfl⟩ : ∃ e, d = e + 1 := ⟨d - 1, by omega⟩
  apply c_J6_lowestOneBit_0f7a4
  apply zL_of; rw [e_J6_lowestOneBit_0f7a4_0, zlob_eq a ha h0]
  rfl
theorem zminN {a b : Nat} (ha : a < 2 ^ 31) (hb : b < 2 ^ 31) : zmin (nI a) (nI b) = nI (min a b) := by
  unfold zmin
  by_cases h : b < a
  · rw [if_pos ((nI_ltI hb ha).mpr h), Nat.min_eq_right (by omega)]
  · rw [if_neg (fun q => h ((nI_ltI hb ha).mp q)), Nat.min_eq_left (by omega)]
theorem zmaxN {a b : Nat} (ha : a < 2 ^ 31) (hb : b < 2 ^ 31) : zmax (nI a) (nI b) = nI (max a b) := by
  unfold zmax
  by_cases h : a < b
  · rw [if_pos ((nI_ltI ha hb).mpr h), Nat.max_eq_right (by omega)]
  · rw [if_neg (fun q => h ((nI_ltI ha hb).mp q)), Nat.max_eq_left (by omega)]
theorem zn10 : ¬ ((1 : Int32) = 0) := by decide
/-- a truth as the machine has it -/
def zbi (p : Prop) [Decidable p] : Int32 := if p then 1 else 0
theorem zbi_t {p : Prop} [Decidable p] (h : p) : zbi p = 1 := if_pos h
theorem zbi_f {p : Prop} [Decidable p] (h : ¬ p) : zbi p = 0 := if_neg h
theorem zbi_True : zbi True = 1 := rfl
theorem zbi_False : zbi False = 0 := rfl
theorem zandm {a b : Nat} (ha : a < 2 ^ 32) : nI a &&& (nI b ^^^ (-nI 1)) = nI (zdif a b) := zandn ha
theorem zbi_0 {p : Prop} [Decidable p] : zbi p = 0 ↔ ¬ p := by
  by_cases h : p
  · simp [zbi, h]
  · simp [zbi, h]
theorem zbi_01 {p : Prop} [Decidable p] : zb01 (zbi p) = true := by
  by_cases h : p
  · rw [zbi_t h]; rfl
  · rw [zbi_f h]; rfl
theorem s_in (hd : 1 ≤ d) (x y z : Int32) : (zenv zbt d).1 143 [.int x, .int y, .int z] M = some (zbi (y ≤ x ∧ x ≤ z), M) := by
  obtain ⟨d, rfl⟩ : ∃ e, d = e + 1 := ⟨d - 1, by omega⟩
  apply c_X8_in
  apply zL_of; rw [e_X8_in_0]
  by_cases h1 : x < y
  · rw [if_pos h1, zbi_f (fun q => absurd h1 (Int32.not_lt.mpr q.1))]; rfl
  · rw [if_neg h1]
    by_cases h2 : z < x
    · rw [if_pos h2, zbi_f (fun q => absurd h2 (Int32.not_lt.mpr q.2))]; rfl
    · rw [if_neg h2, zbi_t ⟨Int32.not_lt.mp h1, Int32.not_lt.mp h2⟩]; rfl
theorem s_has (hd : 1 ≤ d) {a c : Nat} (ha : a < 2 ^ 31) (hc : c < 32) : (zenv zbt d).1 144 [.int (nI a), .int (nI c)] M = some (zbi (a.testBit c = true), M) := by
  obtain ⟨d, rfl⟩ : ∃ e, d = e + 1 := ⟨d - 1, by omega⟩
  apply c_X8_has
  apply zL_of; rw [e_X8_has_0]
  cases h : a.testBit c
  · rw [if_neg (fun q => by rw [zbit1 ha hc, h] at q; cases q), zbi_f (by decide)]; rfl
  · rw [if_pos ((zbit1 ha hc).mpr h), zbi_t rfl]; rfl
theorem l_ones {a : Nat} (ha : a < 2 ^ 31) : ∀ i, i ≤ 10 → zL (zenv zbt d) tb_X8_ones cu_X8_ones 4 [some (.int (nI a)), some (.int (nI (zsum (fun i => (a.testBit i).toNat) i))), some (.int (nI i))] [] M (some (.int (nI (zpop a))), M) := by
  apply zup
  · apply zL_of; rw [e_X8_ones_4, if_pos (by decide)]; rfl
  · intro i hi ih
    apply zL_of; rw [e_X8_ones_4, if_neg (show ¬ ((10 : Int32) ≤ nI i) from nI_ge hi (by decide)), zbitN ha (by omega)]
    apply zPo_go
    simpa only [zlit, nI_add, zsum] using ih
theorem s_ones (hd : 1 ≤ d) {a : Nat} (ha : a < 2 ^ 31) : (zenv zbt d).1 145 [.int (nI a)] M = some (nI (zpop a), M) := by
  obtain ⟨d, rfl⟩ : ∃ e, d = e + 1 := ⟨d - 1, by omega⟩
  apply c_X8_ones
  apply zL_of; rw [e_X8_ones_0]; apply zPo_go
  exact l_ones ha 0 (by omega)
end ZJ

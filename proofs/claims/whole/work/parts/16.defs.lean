/-! What a sheet is: S 0 cells, S 1 wide, S 2 customers, S (3 + c) kinds, S (13 + c) least, S (18 + c) most, S 23 over, S 24 torn, S 25 spoilt, S (26 + c) pieces, S (31 + c) values -/
def znx (w n c : Nat) : Nat := (((if 0 < c % w then 2 ^ (c - 1) else 0) ||| (if c % w < w - 1 then 2 ^ (c + 1) else 0)) ||| (if w ≤ c then 2 ^ (c - w) else 0)) ||| (if c + w < n then 2 ^ (c + w) else 0)
def zsum (f : Nat → Nat) : Nat → Nat
  | 0 => 0
  | k + 1 => zsum f k + f k
def zors (f : Nat → Nat) : Nat → Nat
  | 0 => 0
  | k + 1 => zors f k ||| f k
def zpop (s : Nat) : Nat := zsum (fun i => (s.testBit i).toNat) 10
def zgone (S : Nat → Nat) : Nat := ((((S 25 ||| S 26) ||| S 27) ||| S 28) ||| S 29) ||| S 30
def zon (S : Nat → Nat) : Nat := zdif (2 ^ S 0 - 1) (zgone S)
def zair (S : Nat → Nat) : Nat := zors (fun c => if 4 ≤ S (3 + c) then 2 ^ c else 0) (S 0)
def zone (S : Nat → Nat) (c set : Nat) : Nat := if S (3 + c) = 2 then S (31 + c) + S 23 else if S (3 + c) = 3 then S (31 + c) / 2 else if S (3 + c) < 4 then S (31 + c) else S (31 + c) * zpop ((znx (S 1) (S 0) c &&& set) &&& zair S) + (if S (3 + c) = 5 then 5 else 0)
def zpay (S : Nat → Nat) (set : Nat) : Nat := zsum (fun c => if set.testBit c then zone S c set else 0) (S 0)
def ztear (S : Nat → Nat) (o set : Nat) : Nat := zsum (fun c => if set.testBit c then zpop (zdif (znx (S 1) (S 0) c &&& o) set) else 0) (S 0)
def znb (S : Nat → Nat) (set : Nat) : Nat := zors (fun c => if set.testBit c then znx (S 1) (S 0) c else 0) (S 0)
def zserved (S : Nat → Nat) : Nat := zors (fun c => if S (26 + c) = 0 then 0 else 2 ^ c) (S 2)
def zshp : List (Nat × Nat) := [(1, 1), (1, 2), (1, 3), (1, 4), (1, 5), (1, 6), (2, 2), (2, 4), (2, 6), (2, 8), (2, 10), (3, 3), (3, 6), (3, 9), (4, 4), (4, 8), (5, 5), (5, 10), (6, 6)]
/-- what holds of every sheet -/
def zwf (S : Nat → Nat) : Prop := S 0 ≤ 10 ∧ S 2 ≤ 5 ∧ (S 0 = 0 ∨ (S 1, S 0) ∈ zshp) ∧ (∀ c, c < S 0 → 1 ≤ S (3 + c) ∧ S (3 + c) ≤ 5 ∧ S (31 + c) ≤ 9) ∧ S 23 ≤ 9 ∧ (∀ c, c < S 2 → S (13 + c) ≤ 99 ∧ S (18 + c) ≤ 99) ∧ S 25 < 2 ^ S 0 ∧ (∀ c, c < 5 → S (26 + c) < 2 ^ S 0 ∧ (S 2 ≤ c → S (26 + c) = 0)) ∧ (∀ c e, c < 5 → e < 5 → c ≠ e → S (26 + c) &&& S (26 + e) = 0) ∧ (∀ c, c < 5 → S (26 + c) &&& S 25 = 0)
/-- the class's sheet at the cell b is S -/
def zSheet (S : Nat → Nat) (b : Nat) (M : ZM) : Prop := M.1 b 0 = nI (S 1) ∧ M.1 b 1 = nI (S 0) ∧ M.1 b 2 = nI (S 2) ∧ M.1 b 3 = nI (S 23) ∧ M.1 b 4 = nI (S 24) ∧ M.1 b 5 = nI (zon S) ∧ M.1 b 6 = nI (S 25) ∧ M.1 b 7 = nI (zair S) ∧ (∀ i, i < S 0 → M.1 (b + 1) i = nI (znx (S 1) (S 0) i) ∧ M.1 (b + 2) i = nI (S (3 + i)) ∧ M.1 (b + 3) i = nI (S (31 + i))) ∧ (∀ i, i < S 2 → M.1 (b + 4) i = nI (S (13 + i)) ∧ M.1 (b + 5) i = nI (S (18 + i)) ∧ M.1 (b + 6) i = nI (S (26 + i)))
/-- the reference's sheet is S -/
def zMod (S : Nat → Nat) (M : ZM) : Prop := (∀ k, k < 41 → M.1 72 k = nI (S k)) ∧ ∀ c, c < S 0 → M.1 74 c = nI (znx (S 1) (S 0) c)
theorem zsum_le {f : Nat → Nat} {B : Nat} : ∀ {n : Nat}, (∀ i, i < n → f i ≤ B) → zsum f n ≤ n * B
  | 0, _ => by simp [zsum]
  | n + 1, h => by
    have h1 := zsum_le (f := f) (B := B) (n := n) (fun i hi => h i (by omega))
    have h2 := h n (by omega)
    rw [zsum, Nat.succ_mul]
    omega
theorem zsum_congr {f g : Nat → Nat} : ∀ {n : Nat}, (∀ i, i < n → f i = g i) → zsum f n = zsum g n
  | 0, _ => rfl
  | n + 1, h => by rw [zsum, zsum, zsum_congr (fun i hi => h i (by omega)), h n (by omega)]
theorem zors_congr {f g : Nat → Nat} : ∀ {n : Nat}, (∀ i, i < n → f i = g i) → zors f n = zors g n
  | 0, _ => rfl
  | n + 1, h => by rw [zors, zors, zors_congr (fun i hi => h i (by omega)), h n (by omega)]
theorem zors_bit (f : Nat → Nat) (i : Nat) : ∀ n, (zors f n).testBit i = true ↔ ∃ c, c < n ∧ (f c).testBit i = true
  | 0 => by simp [zors]
  | n + 1 => by
    rw [zors, Nat.testBit_or, Bool.or_eq_true, zors_bit f i n]
    constructor
    · rintro (⟨c, h1, h2⟩ | h)
      · exact ⟨c, by omega, h2⟩
      · exact ⟨n, by omega, h⟩
    · rintro ⟨c, h1, h2⟩
      by_cases hc : c = n
      · subst hc; exact Or.inr h2
      · exact Or.inl ⟨c, by omega, h2⟩
theorem zors_lt {f : Nat → Nat} {k : Nat} : ∀ {n : Nat}, (∀ i, i < n → f i < 2 ^ k) → zors f n < 2 ^ k
  | 0, _ => by simp [zors, Nat.two_pow_pos]
  | n + 1, h => by
    rw [zors]
    exact Nat.or_lt_two_pow (zors_lt (fun i hi => h i (by omega))) (h n (by omega))
theorem zpop_le (s : Nat) : zpop s ≤ 10 := by
  have := zsum_le (f := fun i => (s.testBit i).toNat) (B := 1) (n := 10) (fun i _ => by cases s.testBit i <;> simp)
  simpa [zpop] using this
theorem zlow_mono {a b k n : Nat} (h : a < 2 ^ k) (hk : k ≤ n) : a < 2 ^ n := Nat.lt_of_lt_of_le h (Nat.pow_le_pow_right (by decide) hk)
theorem znx_lt : ∀ q ∈ zshp, ∀ c, c < q.2 → znx q.1 q.2 c < 2 ^ q.2 := by decide +kernel
theorem znx_sym : ∀ q ∈ zshp, ∀ c, c < q.2 → ∀ e, e < q.2 → (znx q.1 q.2 c).testBit e = (znx q.1 q.2 e).testBit c := by decide +kernel
theorem znx_irr : ∀ q ∈ zshp, ∀ c, c < q.2 → (znx q.1 q.2 c).testBit c = false := by decide +kernel
theorem zdif_lt {a b k : Nat} (h : a < 2 ^ k) : zdif a b < 2 ^ k := Nat.lt_of_le_of_lt (zdif_le a b) h
section ZW
variable {S : Nat → Nat}
theorem zwf.n (h : zwf S) : S 0 ≤ 10 := h.1
theorem zwf.m (h : zwf S) : S 2 ≤ 5 := h.2.1
theorem zwf.sh (h : zwf S) (h0 : 0 < S 0) : (S 1, S 0) ∈ zshp := by
  rcases h.2.2.1 with h1 | h1
  · omega
  · exact h1
theorem zwf.nx (h : zwf S) {c : Nat} (hc : c < S 0) : znx (S 1) (S 0) c < 2 ^ S 0 := znx_lt _ (h.sh (by omega)) c hc
theorem zpow10 {n : Nat} (h : n ≤ 10) : 2 ^ n ≤ 1024 := (Nat.pow_le_pow_right (by decide) h : 2 ^ n ≤ 2 ^ 10)
theorem zon_lt : zon S < 2 ^ S 0 := zdif_lt (by have := Nat.two_pow_pos (S 0); omega)
theorem zwf.on (h : zwf S) : zon S < 1024 := Nat.lt_of_lt_of_le zon_lt (zpow10 h.n)
theorem zair_lt : zair S < 2 ^ S 0 := zors_lt (fun i hi => by
  split
  · exact Nat.pow_lt_pow_right (by decide) hi
  · exact Nat.two_pow_pos _)
theorem zwf.air (h : zwf S) : zair S < 1024 := Nat.lt_of_lt_of_le zair_lt (zpow10 h.n)
theorem zwf.nx' (h : zwf S) {c : Nat} (hc : c < S 0) : znx (S 1) (S 0) c < 1024 := Nat.lt_of_lt_of_le (h.nx hc) (zpow10 h.n)
theorem zwf.one (h : zwf S) {c : Nat} (hc : c < S 0) (set : Nat) : zone S c set ≤ 95 := by
  obtain ⟨h1, h2, h3⟩ := h.2.2.2.1 c hc
  have h4 := h.2.2.2.2.1
  have h5 := zpop_le ((znx (S 1) (S 0) c &&& set) &&& zair S)
  have h6 : S (31 + c) * zpop ((znx (S 1) (S 0) c &&& set) &&& zair S) ≤ 9 * 10 := Nat.mul_le_mul h3 h5
  unfold zone
  split
  · omega
  · split
    · omega
    · split
      · omega
      · split <;> omega
theorem zwf.pay (h : zwf S) (set : Nat) : zpay S set ≤ 950 := by
  have h1 := zsum_le (f := fun c => if set.testBit c then zone S c set else 0) (B := 95) (n := S 0) (fun i hi => by
    split
    · exact h.one hi set
    · omega)
  have h2 := h.n
  unfold zpay
  omega
theorem ztear_le (o set : Nat) : ztear S o set ≤ S 0 * 10 := zsum_le (fun i _ => by
  split
  · exact zpop_le _
  · omega)
theorem zwf.tear (h : zwf S) (o set : Nat) : ztear S o set ≤ 100 := by
  have h1 := ztear_le (S := S) o set
  have h2 := h.n
  omega
theorem zwf.nb (h : zwf S) (set : Nat) : znb S set < 2 ^ S 0 := zors_lt (fun i hi => by
  split
  · exact h.nx hi
  · exact Nat.two_pow_pos _)
theorem zwf.nb' (h : zwf S) (set : Nat) : znb S set < 1024 := Nat.lt_of_lt_of_le (h.nb set) (zpow10 h.n)
theorem zwf.pc (h : zwf S) {c : Nat} (hc : c < 5) : S (26 + c) < 1024 := Nat.lt_of_lt_of_le (h.2.2.2.2.2.2.2.1 c hc).1 (zpow10 h.n)
theorem zwf.sp (h : zwf S) : S 25 < 1024 := Nat.lt_of_lt_of_le h.2.2.2.2.2.2.1 (zpow10 h.n)
end ZW

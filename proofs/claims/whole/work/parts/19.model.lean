/-! The reference's sheet: what is read off it -/
def zgF (S : Nat → Nat) : Nat → Nat
  | 0 => S 25
  | i + 1 => zgF S i ||| S (26 + i)
section ZX8
variable {d : Nat} {M : ZM} {S : Nat → Nat}
theorem zMod.at (h : zMod S M) {k : Nat} (hk : k < 41) : M.1 72 (nI k).toNatClampNeg = nI (S k) := by rw [zcN (by omega)]; exact h.1 k hk
theorem s_gone (hd : 1 ≤ d) (hM : zMod S M) : (zenv zbt d).1 171 [.ref 66] M = some (nI (zgone S), M) := by
  obtain ⟨d, rfl⟩ : ∃ e, d = e + 1 := ⟨d - 1, by omega⟩
  have key : ∀ i, i ≤ 5 → zL (zenv zbt d) tb_X8_gone cu_X8_gone 10 [some (.ref 66), some (.int (nI (zgF S i))), some (.int (nI i))] [] M (some (.int (nI (zgone S))), M) := by
    apply zup
    · apply zL_of; rw [e_X8_gone_10, if_pos (by decide)]; rfl
    · intro i hi ih
      apply zL_of; rw [e_X8_gone_10, if_neg (show ¬ ((5 : Int32) ≤ nI i) from nI_ge hi (by decide))]
      simp only [zlit, nI_add]
      rw [zck_t (zinN (by omega) (by decide)), hM.at (by omega), zor]
      exact zPo_go ih
  apply c_X8_gone
  apply zL_of; rw [e_X8_gone_0, hM.1 25 (by decide)]; apply zPo_go
  exact key 0 (by omega)
theorem s_on (hd : 2 ≤ d) (hW : zwf S) (hM : zMod S M) : (zenv zbt d).1 172 [.ref 66] M = some (nI (zon S), M) := by
  obtain ⟨d, rfl⟩ : ∃ e, d = e + 1 := ⟨d - 1, by omega⟩
  have hn := hW.n
  have hp := zpow10 hn
  have hp1 := Nat.two_pow_pos (S 0)
  apply c_X8_on
  apply zL_of; rw [e_X8_on_0, s_gone (by omega) hM, Option.bind_some, hM.1 0 (by decide)]
  simp only [zlit]
  rw [zshl1 (by omega), pk_sub (by omega), zandm (by omega)]
  rfl
theorem zors_zero {f : Nat → Nat} {m : Nat} : ∀ {n : Nat}, m ≤ n → (∀ i, m ≤ i → i < n → f i = 0) → zors f n = zors f m
  | 0, h, _ => by have : m = 0 := by omega
                  rw [this]
  | n + 1, h, hz => by
    by_cases hm : m = n + 1
    · rw [hm]
    · rw [zors, zors_zero (n := n) (by omega) (fun i h1 h2 => hz i h1 (by omega)), hz n (by omega) (by omega), Nat.or_zero]
theorem s_servedNow (hd : 1 ≤ d) (hW : zwf S) (hM : zMod S M) : (zenv zbt d).1 173 [.ref 66] M = some (nI (zserved S), M) := by
  obtain ⟨d, rfl⟩ : ∃ e, d = e + 1 := ⟨d - 1, by omega⟩
  have hz : zserved S = zors (fun c => if S (26 + c) = 0 then 0 else 2 ^ c) 5 := (zors_zero hW.m (fun i h1 h2 => by
    rw [if_pos ((hW.2.2.2.2.2.2.2.1 i h2).2 h1)])).symm
  have key : ∀ i, i ≤ 5 → zL (zenv zbt d) tb_X8_servedNow cu_X8_servedNow 4 [some (.ref 66), some (.int (nI (zors (fun c => if S (26 + c) = 0 then 0 else 2 ^ c) i))), some (.int (nI i))] [] M (some (.int (nI (zserved S))), M) := by
    rw [hz]
    apply zup
    · apply zL_of; rw [e_X8_servedNow_4, if_pos (by decide)]; rfl
    · intro i hi ih
      have hpc := hW.pc hi
      apply zL_of; rw [e_X8_servedNow_4, if_neg (show ¬ ((5 : Int32) ≤ nI i) from nI_ge hi (by decide))]
      simp only [zlit, nI_add]
      rw [zck_t (zinN (by omega) (by decide)), hM.at (by omega), zshl1 (by omega), zor, zor]
      by_cases h : S (26 + i) = 0
      · rw [if_pos (by rw [h]; decide)]
        apply zPo_go
        simpa only [zors, h, if_true] using ih
      · rw [if_neg (show ¬ (nI (S (26 + i)) ≤ nI 0) from nI_nle (by omega) (by omega))]
        apply zPo_go
        simpa only [zors, if_neg h] using ih
  apply c_X8_servedNow
  apply zL_of; rw [e_X8_servedNow_0]; apply zPo_go
  exact key 0 (by omega)
theorem s_lowest (hd : 2 ≤ d) {a : Nat} (ha : a < 1024) (h0 : a ≠ 0) : (zenv zbt d).1 175 [.int (nI a)] M = some (nI (zlow a), M) := by
  obtain ⟨d, rfl⟩ : ∃ e, d = e + 1 := ⟨d - 1, by omega⟩
  obtain ⟨h1, h2, h3⟩ := zlow_lt a ha h0
  have key : ∀ i, i ≤ zlow a → zL (zenv zbt d) tb_X8_lowest cu_X8_lowest 2 [some (.int (nI a)), some (.int (nI i))] [] M (some (.int (nI (zlow a))), M) := by
    apply zup
    · apply zL_of; rw [e_X8_lowest_2, s_has (by omega) (by omega) (by omega), Option.bind_some, zbi_t h2, if_neg zn10]; rfl
    · intro i hi ih
      apply zL_of; rw [e_X8_lowest_2, s_has (by omega) (by omega) (by omega), Option.bind_some, zbi_f (by rw [h3 i hi]; decide), if_pos rfl]
      apply zPo_go
      simpa only [zlit, nI_add] using ih
  apply c_X8_lowest
  apply zL_of; rw [e_X8_lowest_0]; apply zPo_go
  exact key 0 (by omega)
theorem s_mtears (hd : 3 ≤ d) (hW : zwf S) (hM : zMod S M) {a : Nat} (ha : a < 1024) : (zenv zbt d).1 179 [.ref 66, .int (nI a)] M = some (nI (ztear S (zon S) a), M) := by
  obtain ⟨d, rfl⟩ : ∃ e, d = e + 1 := ⟨d - 1, by omega⟩
  have hn10 := hW.n
  have key : ∀ i, i ≤ S 0 → zL (zenv zbt d) tb_X8_tears cu_X8_tears 4 [some (.ref 66), some (.int (nI a)), some (.int (nI (zsum (fun c => if a.testBit c then zpop (zdif (znx (S 1) (S 0) c &&& zon S) a) else 0) i))), some (.int (nI i))] [] M (some (.int (nI (ztear S (zon S) a))), M) := by
    apply zup
    · apply zL_of; rw [e_X8_tears_4, hM.1 0 (by decide), if_pos (nI_le (Nat.le_refl _) (by omega))]; rfl
    · intro i hi ih
      apply zL_of; rw [e_X8_tears_4, hM.1 0 (by decide), if_neg (nI_ge hi (by omega)), s_has (by omega) (by omega) (by omega), Option.bind_some]
      cases h : a.testBit i
      · rw [zbi_f (by decide), if_pos rfl]
        apply zPo_go
        simpa only [zlit, nI_add, zsum, h, Bool.false_eq_true, if_false] using ih
      · have hlt : znx (S 1) (S 0) i &&& zon S < 2 ^ 10 := Nat.and_lt_two_pow _ hW.on
        rw [zbi_t rfl, if_neg zn10, zck_t (zinN (by omega) (by decide))]
        dsimp only
        rw [s_on (by omega) hW hM, Option.bind_some, zcN (by omega), hM.2 i hi, zand, zandn (by omega), s_ones (by omega) (by have := zdif_lt (b := a) hlt; omega), Option.bind_some]
        apply zPo_go
        simpa only [zlit, nI_add, zsum, h, if_true] using ih
  apply c_X8_tears
  apply zL_of; rw [e_X8_tears_0]; apply zPo_go
  exact key 0 (by omega)
theorem s_pays (hd : 2 ≤ d) (hW : zwf S) (hM : zMod S M) {a : Nat} (ha : a < 1024) : (zenv zbt d).1 178 [.ref 66, .int (nI a)] M = some (nI (zpay S a), M) := by
  obtain ⟨d, rfl⟩ : ∃ e, d = e + 1 := ⟨d - 1, by omega⟩
  have hn10 := hW.n
  have key2 : ∀ i, i ≤ S 0 → zL (zenv zbt d) tb_X8_pays cu_X8_pays 51 [some (.ref 66), some (.int (nI a)), some (.int (nI (zair S))), some (.int (nI (zsum (fun c => if a.testBit c then zone S c a else 0) i))), some (.int (nI i)), none, none, none] [] M (some (.int (nI (zpay S a))), M) := by
    apply zup
    · apply zL_of; rw [e_X8_pays_51, hM.1 0 (by decide), if_pos (nI_le (Nat.le_refl _) (by omega))]; rfl
    · intro i hi ih
      obtain ⟨k1, k2, k3⟩ := hW.2.2.2.1 i hi
      have hp : (znx (S 1) (S 0) i &&& a) &&& zair S < 2 ^ 10 := Nat.and_lt_two_pow _ hW.air
      apply zL_of; rw [e_X8_pays_51, hM.1 0 (by decide), if_neg (nI_ge hi (by omega))]
      simp only [zlit, nI_add]
      rw [zck_t (zinN (by omega) (by decide)), zck_t (zinN (by omega) (by decide)), hM.at (by omega), hM.at (by omega), hM.1 23 (by decide), zck_t (zinN (by omega) (by decide)), zcN (by omega), hM.2 i hi]
      simp only [zand, s_ones (d := d) (by omega) (show (znx (S 1) (S 0) i &&& a) &&& zair S < 2 ^ 31 by omega), s_has (d := d) (by omega) (show a < 2 ^ 31 by omega) (show i < 32 by omega), Option.bind_some]
      have hk : S (3 + i) = 1 ∨ S (3 + i) = 2 ∨ S (3 + i) = 3 ∨ S (3 + i) = 4 ∨ S (3 + i) = 5 := by omega
      cases h : a.testBit i
      · simp only [zbi_f (show ¬ (false = true) by decide), zlit, if_true]
        have ih2 : zL (zenv zbt d) tb_X8_pays cu_X8_pays 51 [some (.ref 66), some (.int (nI a)), some (.int (nI (zair S))), some (.int (nI (zsum (fun c => if a.testBit c then zone S c a else 0) i + 0))), some (.int (nI (i + 1))), none, none, none] [] M (some (.int (nI (zpay S a))), M) := by
          simpa only [zsum, h, Bool.false_eq_true, if_false] using ih
        rcases hk with e | e | e | e | e <;> rw [e]
        · rw [if_neg (by decide), if_neg (by decide), if_neg (by decide)]; exact ih2
        · rw [if_pos rfl]; exact ih2
        · rw [if_neg (by decide), if_pos rfl]; exact ih2
        · rw [if_neg (by decide), if_neg (by decide), if_pos (by decide), if_neg (by decide)]; exact ih2
        · rw [if_neg (by decide), if_neg (by decide), if_pos (by decide), if_pos rfl]; exact ih2
      · simp only [zbi_True, zlit]
        have ih2 : zL (zenv zbt d) tb_X8_pays cu_X8_pays 51 [some (.ref 66), some (.int (nI a)), some (.int (nI (zair S))), some (.int (nI (zsum (fun c => if a.testBit c then zone S c a else 0) i + zone S i a))), some (.int (nI (i + 1))), none, none, none] [] M (some (.int (nI (zpay S a))), M) := by
          simpa only [zsum, h, if_true] using ih
        have n10 : ¬ (nI 1 = nI 0) := by decide
        rcases hk with e | e | e | e | e <;> rw [e]
        · rw [if_neg (by decide), if_neg (by decide), if_neg (by decide), if_neg n10]
          have hz : zone S i a = S (31 + i) := by simp [zone, e]
          rw [hz] at ih2
          exact zPo_go (by simpa only [nI_add, pk_mul, Nat.add_zero] using ih2)
        · rw [if_pos rfl, if_neg n10]
          have hz : zone S i a = S (31 + i) + S 23 := by simp [zone, e]
          rw [hz] at ih2
          exact zPo_go (by simpa only [nI_add, pk_mul, Nat.add_zero] using ih2)
        · rw [if_neg (by decide), if_pos rfl, if_neg n10, pk_div (by omega) (by decide) (by decide)]
          have hz : zone S i a = S (31 + i) / 2 := by simp [zone, e]
          rw [hz] at ih2
          exact zPo_go (by simpa only [nI_add, pk_mul, Nat.add_zero] using ih2)
        · rw [if_neg (by decide), if_neg (by decide), if_pos (by decide), if_neg (by decide), if_neg n10]
          have hz : zone S i a = S (31 + i) * zpop ((znx (S 1) (S 0) i &&& a) &&& zair S) := by simp [zone, e]
          rw [hz] at ih2
          exact zPo_go (by simpa only [nI_add, pk_mul, Nat.add_zero] using ih2)
        · rw [if_neg (by decide), if_neg (by decide), if_pos (by decide), if_pos rfl, if_neg n10]
          have hz : zone S i a = S (31 + i) * zpop ((znx (S 1) (S 0) i &&& a) &&& zair S) + 5 := by simp [zone, e]
          rw [hz] at ih2
          exact zPo_go (by simpa only [nI_add, pk_mul, Nat.add_zero] using ih2)
  have key1 : ∀ i, i ≤ S 0 → zL (zenv zbt d) tb_X8_pays cu_X8_pays 7 [some (.ref 66), some (.int (nI a)), some (.int (nI (zors (fun c => if 4 ≤ S (3 + c) then 2 ^ c else 0) i))), some (.int (nI 0)), some (.int (nI i)), none, none, none] [] M (some (.int (nI (zpay S a))), M) := by
    apply zup
    · apply zL_of; rw [e_X8_pays_7, hM.1 0 (by decide), if_pos (nI_le (Nat.le_refl _) (by omega))]
      exact zPo_go (key2 0 (by omega))
    · intro i hi ih
      obtain ⟨k1, k2, k3⟩ := hW.2.2.2.1 i hi
      apply zL_of; rw [e_X8_pays_7, hM.1 0 (by decide), if_neg (nI_ge hi (by omega))]
      simp only [zlit, nI_add]
      rw [zck_t (zinN (by omega) (by decide)), hM.at (by omega), zshl1 (by omega), zor, zor]
      by_cases h : S (3 + i) < 4
      · rw [if_pos ((nI_ltI (by omega) (by decide)).mpr h)]
        apply zPo_go
        simpa only [zors, if_neg (show ¬ 4 ≤ S (3 + i) by omega)] using ih
      · rw [if_neg (fun q => h ((nI_ltI (by omega) (by decide)).mp q))]
        apply zPo_go
        simpa only [zors, if_pos (show 4 ≤ S (3 + i) by omega)] using ih
  apply c_X8_pays
  apply zL_of; rw [e_X8_pays_0]; apply zPo_go
  exact key1 0 (by omega)
end ZX8

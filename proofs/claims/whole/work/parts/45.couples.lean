/-! couples -/
theorem zntz_lo : ∀ a, a < 1024 → a ≠ 0 → (nI a ^^^ (-1)) &&& (nI a - 1) = nI (2 ^ zlow a - 1) := by decide +kernel
def zcoup (S : Nat → Nat) : Nat → Nat → Nat
  | 0, s => if s = 0 then 1 else 0
  | k + 1, s => if s = 0 then 1 else zsum (fun c => if zlow s < c ∧ s.testBit c = true ∧ (znx (S 1) (S 0) (zlow s)).testBit c = true then zcoup S k (zdif (zdif s (2 ^ zlow s)) (2 ^ c)) else 0) (S 0)
theorem zdif_lt2 {s c : Nat} (h : s.testBit c = true) : zdif s (2 ^ c) < s := by
  refine Nat.lt_of_le_of_ne (zdif_le _ _) (fun e => ?_)
  have := congrArg (fun z => z.testBit c) e
  simp only [zdif_bit, h, Nat.testBit_two_pow, decide_true, Bool.not_true, Bool.and_false] at this
  cases this
theorem zcoup_fu {S : Nat → Nat} : ∀ s, s < 1024 → ∀ k k', s ≤ k → s ≤ k' → zcoup S k s = zcoup S k' s := by
  intro s
  induction s using Nat.strongRecOn with
  | ind s ih =>
    intro hs k k' h1 h2
    by_cases h0 : s = 0
    · subst h0
      cases k <;> cases k' <;> simp [zcoup]
    · obtain ⟨l1, l2, -⟩ := zlow_lt s hs h0
      obtain ⟨k, rfl⟩ : ∃ e, k = e + 1 := ⟨k - 1, by omega⟩
      obtain ⟨k', rfl⟩ : ∃ e, k' = e + 1 := ⟨k' - 1, by omega⟩
      rw [zcoup, zcoup, if_neg h0, if_neg h0]
      refine zsum_congr (fun c hc => ?_)
      by_cases hh : zlow s < c ∧ s.testBit c = true ∧ (znx (S 1) (S 0) (zlow s)).testBit c = true
      · rw [if_pos hh, if_pos hh]
        have q1 := zdif_lt2 l2
        have q2 := zdif_le (zdif s (2 ^ zlow s)) (2 ^ c)
        exact ih _ (by omega) (by omega) k k' (by omega) (by omega)
      · rw [if_neg hh, if_neg hh]
/-- couplings of a set -/
def zF (S : Nat → Nat) (s : Nat) : Nat := zcoup S s s
def zFg (S : Nat → Nat) (s c : Nat) : Nat := if zlow s < c ∧ s.testBit c = true ∧ (znx (S 1) (S 0) (zlow s)).testBit c = true then zF S (zdif (zdif s (2 ^ zlow s)) (2 ^ c)) else 0
theorem zF_eq {S : Nat → Nat} {s : Nat} (hs : s < 1024) (h0 : s ≠ 0) : zF S s = zsum (zFg S s) (S 0) := by
  obtain ⟨l1, l2, -⟩ := zlow_lt s hs h0
  obtain ⟨k, rfl⟩ : ∃ e, s = e + 1 := ⟨s - 1, by omega⟩
  unfold zF
  rw [zcoup, if_neg h0]
  refine zsum_congr (fun c hc => ?_)
  unfold zFg
  by_cases hh : zlow (k + 1) < c ∧ (k + 1).testBit c = true ∧ (znx (S 1) (S 0) (zlow (k + 1))).testBit c = true
  · rw [if_pos hh, if_pos hh]
    have q1 := zdif_lt2 l2
    have q2 := zdif_le (zdif (k + 1) (2 ^ zlow (k + 1))) (2 ^ c)
    exact zcoup_fu _ (by omega) _ _ (by omega) (Nat.le_refl _)
  · rw [if_neg hh, if_neg hh]
theorem zFg_0 {S : Nat → Nat} {s : Nat} : zsum (zFg S s) (zlow s + 1) = 0 := by
  have : ∀ n, n ≤ zlow s + 1 → zsum (zFg S s) n = 0 := by
    intro n
    induction n with
    | zero => intro _; rfl
    | succ n ih =>
      intro h
      rw [zsum, ih (by omega), zFg, if_neg (by omega)]
  exact this _ (Nat.le_refl _)
theorem zmask0 {x c : Nat} : x &&& 2 ^ c = 0 ↔ x.testBit c = false := by
  constructor
  · intro h
    cases hx : x.testBit c
    · rfl
    · have := zand0 h hx
      rw [Nat.testBit_two_pow, decide_eq_false_iff_not] at this
      exact absurd rfl this
  · intro h
    apply Nat.eq_of_testBit_eq
    intro i
    rw [Nat.testBit_and, Nat.zero_testBit, Nat.testBit_two_pow]
    by_cases e : c = i
    · rw [← e, h]; rfl
    · simp [e]
section ZX34
variable {d : Nat} {M : ZM} {S : Nat → Nat} {b : Nat}
theorem s_ntz (hd : 1 ≤ d) {a : Nat} (ha : a < 1024) (h0 : a ≠ 0) : (zenv zbt d).1 232 [.int (nI a)] M = some (nI (zlow a), M) := by
  obtain ⟨d, rfl⟩ : ∃ e, d = e + 1 := ⟨d - 1, by omega⟩
  have hl := (zlow_lt a ha h0).1
  apply c_J6_numberOfTrailingZeros_0f7a4
  apply zL_of; rw [e_J6_numberOfTrailingZeros_0f7a4_0, zntz_lo a ha h0]; apply zPo_go
  generalize zlow a = l at hl ⊢
  have h10 : l = 0 ∨ l = 1 ∨ l = 2 ∨ l = 3 ∨ l = 4 ∨ l = 5 ∨ l = 6 ∨ l = 7 ∨ l = 8 ∨ l = 9 := by omega
  rcases h10 with rfl | rfl | rfl | rfl | rfl | rfl | rfl | rfl | rfl | rfl
  · apply zL_of; rw [e_J6_numberOfTrailingZeros_0f7a4_8, if_neg (by decide)]; rfl
  all_goals
    apply zL_of; rw [e_J6_numberOfTrailingZeros_0f7a4_8, if_pos (by decide)]; apply zPo_go
    apply zL_of; rw [e_J6_numberOfTrailingZeros_0f7a4_17, if_pos (by decide)]; apply zPo_go
    apply zL_of; rw [e_J6_numberOfTrailingZeros_0f7a4_34]
    first
      | rw [if_pos (by decide)]
      | rw [if_neg (by decide)]
    apply zPo_go
    apply zL_of; rw [e_J6_numberOfTrailingZeros_0f7a4_49]
    first
      | rw [if_pos (by decide)]
      | rw [if_neg (by decide)]
    apply zPo_go
    apply zL_of; rw [e_J6_numberOfTrailingZeros_0f7a4_62]
    first
      | rw [if_pos (by decide)]
      | rw [if_neg (by decide)]
    apply zPo_go
    apply zL_of; rw [e_J6_numberOfTrailingZeros_0f7a4_74]; rfl
theorem zxx {s c : Nat} (hs : s < 1024) (h0 : s ≠ 0) (hc : zlow s < c) (hb : s.testBit c = true) : (s ^^^ 2 ^ zlow s) ^^^ 2 ^ c = zdif (zdif s (2 ^ zlow s)) (2 ^ c) := by
  obtain ⟨l1, l2, -⟩ := zlow_lt s hs h0
  rw [zxor_bit l2, zxor_bit]
  rw [zdif_bit, hb, Nat.testBit_two_pow, decide_eq_false (by omega)]; rfl
theorem s_coupC (hd : 2 ≤ d) (hb : zsh b) (hW : zwf S) (hS : zSheet S b M) : ∃ M', (zenv zbt d).1 34 [.ref 53, .ref b] M = some (nI (zF S (zon S)), M') ∧ zFr [58] M M' := by
  obtain ⟨d, rfl⟩ : ∃ e, d = e + 1 := ⟨d - 1, by omega⟩
  have hn := hW.n
  have hon := hW.on
  have hpw := zpow10 hn
  have hol := zon_lt (S := S)
  have key : ∀ s, s ≤ zon S + 1 → 1 ≤ s → ∀ M1, zFr [58] M M1 → (∀ t, t < s → M1.1 58 t = nI (zF S t)) → ∃ M', zL (zenv zbt d) tb_X2_countCouplings cu_X2_countCouplings 9 [some (.ref 53), some (.ref b), some (.int (nI s)), none, none, none] [] M1 (some (.int (nI (zF S (zon S)))), M') ∧ zFr [58] M M' := by
    apply zup
    · intro _ M1 f1 g1
      have hS1 : zSheet S b M1 := hS.fr f1 (fun j hj => by unfold zsh at hb; simp; omega)
      refine ⟨M1, ?_, f1⟩
      apply zL_of; rw [e_X2_countCouplings_9 _ _ _ hb, hS1.2.2.2.2.2.1, if_pos (nI_lt (by omega) (by omega)), zck_t (zinN hon (by decide)), zcN (by omega), g1 _ (by omega)]; rfl
    · intro s hs ih h1 M1 f1 g1
      have hS1 : zSheet S b M1 := hS.fr f1 (fun j hj => by unfold zsh at hb; simp; omega)
      obtain ⟨l1, l2, l3⟩ := zlow_lt s (by omega) (by omega)
      have hln : zlow s < S 0 := zlt_of_bit (show s < 2 ^ S 0 by omega) l2
      obtain ⟨M', hL, f'⟩ := ih (by omega) (zw M1 58 s (nI (zF S s))) (f1.w (by decide)) (fun t ht => by
        by_cases e : t = s
        · rw [e, zw_eq]
        · rw [zw_nk e]; exact g1 t (by omega))
      refine ⟨M', ?_, f'⟩
      have inner : ∀ c, c ≤ S 0 → zlow s < c → zL (zenv zbt d) tb_X2_countCouplings cu_X2_countCouplings 37 [some (.ref 53), some (.ref b), some (.int (nI s)), some (.int (nI (zlow s))), some (.int (nI (zsum (zFg S s) c))), some (.int (nI c))] [] M1 (some (.int (nI (zF S (zon S)))), M') := by
        apply zup
        · intro _
          apply zL_of; rw [e_X2_countCouplings_37 _ _ _ hb, hS1.2.1, if_pos (nI_le (Nat.le_refl _) (by omega)), zck_t (zinN (by omega) (by decide)), zcN (by omega), nI_1, ← zF_eq (by omega) (by omega)]
          exact zPo_go hL
        · intro c hc ih2 hlc
          have hnx := hW.nx' hln
          have hx : (znx (S 1) (S 0) (zlow s) &&& s) &&& 2 ^ c < 1024 := by
            have := Nat.and_lt_two_pow (znx (S 1) (S 0) (zlow s)) (show s < 2 ^ 10 by omega)
            have h2 : (znx (S 1) (S 0) (zlow s) &&& s) &&& 2 ^ c ≤ znx (S 1) (S 0) (zlow s) &&& s := Nat.and_le_left
            omega
          apply zL_of; rw [e_X2_countCouplings_37 _ _ _ hb, hS1.2.1, if_neg (nI_ge hc (by omega)), zck_t (zinN (by omega) (by decide)), zcN (show zlow s < 2 ^ 31 by omega), (hS1.2.2.2.2.2.2.2.2.1 _ hln).1, zand, show zshl 1 (nI c) = nI (2 ^ c) from zshl1 (by omega), zand]
          have ih3 := ih2 (by omega)
          rw [zsum] at ih3
          by_cases hh : s.testBit c = true ∧ (znx (S 1) (S 0) (zlow s)).testBit c = true
          · have e0 : ¬ ((znx (S 1) (S 0) (zlow s) &&& s) &&& 2 ^ c = 0) := by
              rw [zmask0, Nat.testBit_and, hh.1, hh.2]; decide
            have q1 := zdif_lt2 l2
            have q2 := zdif_le (zdif s (2 ^ zlow s)) (2 ^ c)
            rw [if_neg (nI_ne0 (by omega) (by omega)), show zshl 1 (nI (zlow s)) = nI (2 ^ zlow s) from zshl1 (by omega), zxor, zxor, zxx (by omega) (by omega) hlc hh.1, zck_t (zinN (by omega) (by decide)), zcN (by omega), g1 _ (by omega), nI_add, nI_1]
            rw [zFg, if_pos ⟨hlc, hh⟩] at ih3
            exact zPo_go ih3
          · have e0 : (znx (S 1) (S 0) (zlow s) &&& s) &&& 2 ^ c = 0 := by
              rw [zmask0, Nat.testBit_and]
              cases q1 : (znx (S 1) (S 0) (zlow s)).testBit c
              · rfl
              · cases q2 : s.testBit c
                · rfl
                · exact absurd ⟨q2, q1⟩ hh
            rw [if_pos (by rw [e0]; rfl), nI_1]
            rw [zFg, if_neg (fun q => hh q.2), Nat.add_zero] at ih3
            exact zPo_go ih3
      have h37 := inner (zlow s + 1) (by omega) (by omega)
      rw [zFg_0] at h37
      apply zL_of; rw [e_X2_countCouplings_9 _ _ _ hb, hS1.2.2.2.2.2.1, if_neg (nI_nlt (by omega) (by omega)), if_neg (show ¬ ((1024 : Int32) ≤ nI s) from nI_ge (show s < 1024 by omega) (by decide)), s_ntz (by omega) (by omega) (by omega), Option.bind_some]
      dsimp only
      rw [nI_1]
      exact zPo_go h37
  have e0 : zF S 0 = 1 := rfl
  obtain ⟨M', hL, f'⟩ := key 1 (by omega) (by omega) (zw M 58 0 1) (zFr.rf.w (by decide)) (fun t ht => by
    rw [show t = 0 by omega, zw_eq, e0]; rfl)
  refine ⟨M', ?_, f'⟩
  apply c_X2_countCouplings
  apply zL_of; rw [e_X2_countCouplings_0 _ _ _ hb]
  exact zPo_go hL
end ZX34

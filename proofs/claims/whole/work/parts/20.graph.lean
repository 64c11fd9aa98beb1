/-! What hangs together: growing a set by its neighbours -/
def zgrow (S : Nat → Nat) (W p : Nat) : Nat := p ||| (znb S p &&& W)
def zit (S : Nat → Nat) (W p : Nat) : Nat → Nat
  | 0 => p
  | k + 1 => zgrow S W (zit S W p k)
def zcomp (S : Nat → Nat) (W p : Nat) : Nat := zit S W p 10
def zprev (S : Nat → Nat) (W p : Nat) : Nat → Nat
  | 0 => 0
  | j + 1 => zit S W p j
def zhang (S : Nat → Nat) (a : Nat) : Bool := decide (a ≠ 0) && zcomp S a (2 ^ zlow a) == a
theorem zgrow_bit (S : Nat → Nat) (W p i : Nat) : (zgrow S W p).testBit i = (p.testBit i || ((znb S p).testBit i && W.testBit i)) := by
  rw [zgrow, Nat.testBit_or, Nat.testBit_and]
theorem zgrow_lt {S : Nat → Nat} {W p k : Nat} (hW : W < 2 ^ k) (hp : p < 2 ^ k) : zgrow S W p < 2 ^ k := Nat.or_lt_two_pow hp (Nat.and_lt_two_pow _ hW)
theorem zit_lt {S : Nat → Nat} {W p k : Nat} (hW : W < 2 ^ k) (hp : p < 2 ^ k) : ∀ j, zit S W p j < 2 ^ k
  | 0 => hp
  | j + 1 => zgrow_lt hW (zit_lt hW hp j)
theorem zsum_lt {f g : Nat → Nat} : ∀ {n : Nat}, (∀ i, i < n → f i ≤ g i) → (∃ i, i < n ∧ f i < g i) → zsum f n < zsum g n
  | 0, _, h => by obtain ⟨i, hi, _⟩ := h; omega
  | n + 1, h, hx => by
    rw [zsum, zsum]
    have hle : zsum f n ≤ zsum g n := by
      clear hx
      induction n with
      | zero => exact Nat.le_refl _
      | succ n ih =>
        rw [zsum, zsum]
        have := ih (fun i hi => h i (by omega))
        have := h n (by omega)
        omega
    have hn := h n (by omega)
    obtain ⟨i, hi, hlt⟩ := hx
    by_cases e : i = n
    · subst e; omega
    · have := zsum_lt (n := n) (fun j hj => h j (by omega)) ⟨i, by omega, hlt⟩
      omega
theorem zpop_lt {x y : Nat} (hy : y < 1024) (hs : ∀ i, x.testBit i = true → y.testBit i = true) (hne : x ≠ y) : zpop x < zpop y := by
  refine zsum_lt (fun i _ => ?_) ?_
  · cases hx : x.testBit i
    · simp
    · rw [hs i hx]; simp
  · refine Classical.byContradiction fun hn => hne (Nat.eq_of_testBit_eq fun i => ?_)
    by_cases hi : i < 10
    · cases hx : x.testBit i
      · cases hy2 : y.testBit i
        · rfl
        · exact absurd ⟨i, hi, by simp [hx, hy2]⟩ hn
      · rw [hs i hx]
    · have h1 : y.testBit i = false := Nat.testBit_lt_two_pow (Nat.lt_of_lt_of_le hy (Nat.pow_le_pow_right (by decide) (by omega) : 2 ^ 10 ≤ 2 ^ i))
      cases hx : x.testBit i
      · exact h1.symm
      · rw [hs i hx] at h1; cases h1
theorem zit_stay {S : Nat → Nat} {W p k : Nat} (h : zgrow S W (zit S W p k) = zit S W p k) : ∀ j, zit S W p (k + j) = zit S W p k
  | 0 => rfl
  | j + 1 => by
    show zgrow S W (zit S W p (k + j)) = _
    rw [zit_stay h j, h]
theorem zit_grows {S : Nat → Nat} {W p : Nat} (hW : W < 1024) (hp : p < 1024) : ∀ k, (∀ j, j < k → zgrow S W (zit S W p j) ≠ zit S W p j) → k ≤ zpop (zit S W p k)
  | 0, _ => Nat.zero_le _
  | k + 1, h => by
    have ih := zit_grows hW hp k (fun j hj => h j (by omega))
    have h2 := zpop_lt (x := zit S W p k) (y := zit S W p (k + 1)) (zit_lt (k := 10) hW hp _) (fun i hi => by
      show (zgrow S W (zit S W p k)).testBit i = true
      rw [zgrow_bit, hi, Bool.true_or]) (fun e => h k (by omega) e.symm)
    omega
theorem zcomp_fix {S : Nat → Nat} {W p : Nat} (hW : W < 1024) (hp : p < 1024) : zgrow S W (zcomp S W p) = zcomp S W p := by
  refine Classical.byContradiction fun hn => ?_
  have h1 : ∀ j, j < 11 → zgrow S W (zit S W p j) ≠ zit S W p j := by
    intro j hj e
    apply hn
    have h2 := zit_stay e (10 - j)
    rw [show j + (10 - j) = 10 by omega] at h2
    unfold zcomp
    rw [h2, e]
  have h3 := zit_grows hW hp 11 h1
  have h4 := zpop_le (zit S W p 11)
  omega
theorem zcomp_of {S : Nat → Nat} {W p k : Nat} (hk : k ≤ 10) (h : zgrow S W (zit S W p k) = zit S W p k) : zcomp S W p = zit S W p k := by
  have h2 := zit_stay h (10 - k)
  rw [show k + (10 - k) = 10 by omega] at h2
  exact h2
theorem zcomp_lt {S : Nat → Nat} {W p : Nat} (hW : W < 1024) (hp : p < 1024) : zcomp S W p < 1024 := zit_lt (k := 10) hW hp 10
/-- it holds what it began with -/
theorem zcomp_in {S : Nat → Nat} {W p i : Nat} (h : p.testBit i = true) : (zcomp S W p).testBit i = true := by
  have key : ∀ k, (zit S W p k).testBit i = true := by
    intro k
    induction k with
    | zero => exact h
    | succ k ih =>
      show (zgrow S W (zit S W p k)).testBit i = true
      rw [zgrow_bit, ih, Bool.true_or]
  exact key 10
theorem znb_bit (S : Nat → Nat) (p i : Nat) : (znb S p).testBit i = true ↔ ∃ c, c < S 0 ∧ p.testBit c = true ∧ (znx (S 1) (S 0) c).testBit i = true := by
  unfold znb
  rw [zors_bit]
  constructor
  · rintro ⟨c, hc, h⟩
    split at h
    · rename_i ht
      exact ⟨c, hc, ht, h⟩
    · simp at h
  · rintro ⟨c, hc, h1, h2⟩
    exact ⟨c, hc, by rw [if_pos h1]; exact h2⟩
/-- it holds the neighbours within W of what it holds -/
theorem zcomp_next {S : Nat → Nat} {W p c i : Nat} (hW : W < 1024) (hp : p < 1024) (hc : c < S 0) (h : (zcomp S W p).testBit c = true) (hx : (znx (S 1) (S 0) c).testBit i = true) (hi : W.testBit i = true) : (zcomp S W p).testBit i = true := by
  have h1 := zgrow_bit S W (zcomp S W p) i
  rw [zcomp_fix hW hp, (znb_bit S (zcomp S W p) i).mpr ⟨c, hc, h, hx⟩, hi] at h1
  rw [h1]
  simp
/-- and it lies in every set that does so -/
theorem zcomp_least {S : Nat → Nat} {W p T : Nat} (hp : ∀ i, p.testBit i = true → T.testBit i = true) (hT : ∀ c i, c < S 0 → T.testBit c = true → (znx (S 1) (S 0) c).testBit i = true → W.testBit i = true → T.testBit i = true) : ∀ i, (zcomp S W p).testBit i = true → T.testBit i = true := by
  have key : ∀ k i, (zit S W p k).testBit i = true → T.testBit i = true := by
    intro k
    induction k with
    | zero => exact hp
    | succ k ih =>
      intro i h
      change (zgrow S W (zit S W p k)).testBit i = true at h
      rw [zgrow_bit, Bool.or_eq_true, Bool.and_eq_true] at h
      rcases h with h | ⟨h1, h2⟩
      · exact ih i h
      · obtain ⟨c, hc, h3, h4⟩ := (znb_bit S _ i).mp h1
        exact hT c i hc (ih c h3) h4 h2
  exact key 10
theorem zors_and {f : Nat → Nat} {t : Nat → Bool} {W : Nat} : ∀ n, zors (fun c => if t c then f c &&& W else 0) n = zors (fun c => if t c then f c else 0) n &&& W
  | 0 => by simp [zors]
  | n + 1 => by
    rw [zors, zors, zors_and n]
    cases t n
    · simp
    · simp only [if_true]
      exact (Nat.and_or_distrib_right ..).symm
theorem zpow_lt {c : Nat} (h : c < 10) : 2 ^ c < 1024 := (Nat.pow_lt_pow_right (by decide) h : 2 ^ c < 2 ^ 10)
section ZX9
variable {d : Nat} {M : ZM} {S : Nat → Nat} {b : Nat}
theorem s_reach (hd : 2 ≤ d) (hW : zwf S) (hM : zMod S M) {a c : Nat} (ha : a < 1024) (hc : c < 10) : (zenv zbt d).1 174 [.ref 66, .int (nI a), .int (nI c)] M = some (nI (zcomp S a (2 ^ c)), M) := by
  obtain ⟨d, rfl⟩ : ∃ e, d = e + 1 := ⟨d - 1, by omega⟩
  have hn10 := hW.n
  have hp := zpow_lt hc
  have inner : ∀ (p : Nat), p < 1024 → ∀ (r : ZR), zL (zenv zbt d) tb_X8_reach cu_X8_reach 7 [some (.ref 66), some (.int (nI a)), none, some (.int (nI (zgrow S a p))), some (.int (nI p)), none] [] M r → ∀ i, i ≤ S 0 → zL (zenv zbt d) tb_X8_reach cu_X8_reach 19 [some (.ref 66), some (.int (nI a)), none, some (.int (nI (p ||| zors (fun c => if p.testBit c then znx (S 1) (S 0) c &&& a else 0) i))), some (.int (nI p)), some (.int (nI i))] [] M r := by
    intro p hp r hr
    apply zup
    · apply zL_of; rw [e_X8_reach_19, hM.1 0 (by decide), if_pos (nI_le (Nat.le_refl _) (by omega)), zors_and]
      exact zPo_go hr
    · intro i hi ih
      apply zL_of; rw [e_X8_reach_19, hM.1 0 (by decide), if_neg (nI_ge hi (by omega)), s_has (by omega) (by omega) (by omega), Option.bind_some]
      cases h : p.testBit i
      · rw [zbi_f (by decide), if_pos rfl]
        apply zPo_go
        simpa only [zlit, nI_add, zor, zors, h, Bool.false_eq_true, if_false, Nat.or_zero] using ih
      · rw [zbi_t rfl, if_neg zn10, zck_t (zinN (by omega) (by decide))]
        dsimp only
        rw [zcN (by omega), hM.2 i hi, zand, zor, Nat.or_assoc]
        apply zPo_go
        simpa only [zlit, nI_add, zors, h, if_true] using ih
  have key : ∀ k, k ≤ 11 → zL (zenv zbt d) tb_X8_reach cu_X8_reach 7 [some (.ref 66), some (.int (nI a)), none, some (.int (nI (zit S a (2 ^ c) k))), some (.int (nI (zprev S a (2 ^ c) k))), none] [] M (some (.int (nI (zcomp S a (2 ^ c)))), M) := by
    have hlt : ∀ k, zit S a (2 ^ c) k < 1024 := fun k => zit_lt (k := 10) ha hp k
    apply zup
    · have e : zit S a (2 ^ c) 11 = zit S a (2 ^ c) 10 := zcomp_fix ha hp
      apply zL_of; rw [e_X8_reach_7, if_pos (by rw [e]; rfl), e]
      rfl
    · intro k hk ih
      have h1 := hlt k
      apply zL_of; rw [e_X8_reach_7]
      by_cases e : zit S a (2 ^ c) k = (zprev S a (2 ^ c) k)
      · rw [if_pos (by rw [← e])]
        cases k with
        | zero =>
          exfalso
          have : (2 : Nat) ^ c = 0 := e
          have := Nat.two_pow_pos c
          omega
        | succ j =>
          have e2 : zgrow S a (zit S a (2 ^ c) j) = zit S a (2 ^ c) j := e
          rw [zcomp_of (k := j) (by omega) e2, e]
          rfl
      · rw [if_neg (fun q => e ((nI_eq (by omega) (by cases k with | zero => exact (by decide : 0 < 2 ^ 31) | succ j => have := hlt j; show zit S a (2 ^ c) j < 2 ^ 31; omega)).mp q))]
        apply zPo_go
        have := inner (zit S a (2 ^ c) k) h1 _ ih 0 (by omega)
        simpa only [zlit, zors, Nat.or_zero] using this
  apply c_X8_reach
  apply zL_of; rw [e_X8_reach_0]
  simp only [zlit]
  rw [zshl1 (by omega)]
  apply zPo_go
  exact key 0 (by omega)
theorem s_hangs (hd : 3 ≤ d) (hW : zwf S) (hM : zMod S M) {a : Nat} (ha : a < 1024) : (zenv zbt d).1 176 [.ref 66, .int (nI a)] M = some (zbi (zhang S a = true), M) := by
  obtain ⟨d, rfl⟩ : ∃ e, d = e + 1 := ⟨d - 1, by omega⟩
  apply c_X8_hangs
  apply zL_of; rw [e_X8_hangs_0]
  by_cases h : a = 0
  · rw [if_pos (by rw [h]; decide), zbi_f (by simp [zhang, h])]; rfl
  · have hl := (zlow_lt a ha h).1
    have hp := zpow_lt hl
    have hc := zcomp_lt (S := S) ha hp
    rw [if_neg (nI_nle (by omega) (by omega)), s_lowest (by omega) ha h, Option.bind_some]
    dsimp only
    rw [s_reach (by omega) hW hM ha hl, Option.bind_some]
    by_cases e : zcomp S a (2 ^ zlow a) = a
    · rw [if_pos (by rw [e]), zbi_t (by simp [zhang, h, e])]; rfl
    · rw [if_neg (fun q => e ((nI_eq (by omega) (by omega)).mp q)), zbi_f (by simp [zhang, h, e])]; rfl
theorem s_partAround (hd : 2 ≤ d) (hb : zsh b) (hW : zwf S) (hS : zSheet S b M) {p a : Nat} (hp : p < 1024) (ha : a < 1024) : (zenv zbt d).1 72 [.ref b, .int (nI p), .int (nI a)] M = some (nI (zcomp S a p), M) := by
  obtain ⟨d, rfl⟩ : ∃ e, d = e + 1 := ⟨d - 1, by omega⟩
  have key : ∀ i, i ≤ 10 → zL (zenv zbt d) tb_X5_partAround cu_X5_partAround 5 [some (.ref b), none, some (.int (nI a)), some (.int (nI (zit S a p i))), some (.int (nI i))] [] M (some (.int (nI (zcomp S a p))), M) := by
    apply zup
    · apply zL_of; rw [e_X5_partAround_5 _ _ _ hb, if_pos (by decide)]; rfl
    · intro i hi ih
      apply zL_of; rw [e_X5_partAround_5 _ _ _ hb, if_neg (show ¬ ((10 : Int32) ≤ nI i) from nI_ge hi (by decide)), s_nextTo (by omega) hb hW hS (zit_lt (k := 10) ha hp i), Option.bind_some]
      dsimp only
      rw [zand, zor]
      apply zPo_go
      simpa only [zlit, nI_add, zit, zgrow] using ih
  apply c_X5_partAround
  apply zL_of; rw [e_X5_partAround_0 _ _ _ hb]; apply zPo_go
  exact key 0 (by omega)
end ZX9

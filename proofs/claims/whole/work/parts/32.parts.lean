/-! The parts of a set: taken away one by one, by their least cells -/
def zlf (S : Nat → Nat) (W : Nat) : Nat → Nat
  | 0 => W
  | j + 1 => zdif (zlf S W j) (zcomp S W (2 ^ zlow (zlf S W j)))
def zfz (f : Nat → Nat) : Nat → Nat → Nat
  | 0, i => i
  | k + 1, i => if f i = 0 then i else zfz f k (i + 1)
/-- how many parts -/
def zpn (S : Nat → Nat) (W : Nat) : Nat := zfz (zlf S W) 10 0
/-- the k-th part, or nothing -/
def zpt (S : Nat → Nat) (W k : Nat) : Nat := if zlf S W k = 0 then 0 else zcomp S W (2 ^ zlow (zlf S W k))
theorem zfz_spec {f : Nat → Nat} : ∀ (k i : Nat), zfz f k i ≤ i + k ∧ (∀ j, i ≤ j → j < zfz f k i → f j ≠ 0) ∧ (zfz f k i < i + k → f (zfz f k i) = 0)
  | 0, i => ⟨by simp [zfz], fun j h1 h2 => by simp [zfz] at h2; omega, fun h => by simp [zfz] at h⟩
  | k + 1, i => by
    unfold zfz
    by_cases h : f i = 0
    · rw [if_pos h]
      exact ⟨by omega, fun j h1 h2 => by omega, fun _ => h⟩
    · rw [if_neg h]
      obtain ⟨h1, h2, h3⟩ := zfz_spec (f := f) k (i + 1)
      refine ⟨by omega, fun j q1 q2 => ?_, fun q => h3 (by omega)⟩
      by_cases e : j = i
      · rw [e]; exact h
      · exact h2 j (by omega) q2
theorem zdif_zero (b : Nat) : zdif 0 b = 0 := by
  have := zdif_le 0 b
  omega
theorem zbit_lt {x i n : Nat} (hx : x < 2 ^ n) (h : x.testBit i = true) : i < n := by
  refine Nat.lt_of_not_le fun q => ?_
  rw [Nat.testBit_lt_two_pow (Nat.lt_of_lt_of_le hx (Nat.pow_le_pow_right (by decide) q))] at h
  cases h
theorem zpow_bit {k i : Nat} : (2 ^ k).testBit i = true ↔ i = k := by
  constructor
  · intro h
    by_cases e : k = i
    · exact e.symm
    · rw [Nat.testBit_two_pow_of_ne e] at h; cases h
  · intro h; rw [h]; exact Nat.testBit_two_pow_self
section ZG
variable {S : Nat → Nat} {W : Nat}
theorem zcomp_sub {p : Nat} (hp : ∀ i, p.testBit i = true → W.testBit i = true) : ∀ i, (zcomp S W p).testBit i = true → W.testBit i = true :=
  zcomp_least hp (fun _ _ _ _ _ h => h)
theorem zlf_lt (hW : W < 2 ^ S 0) : ∀ j, zlf S W j < 2 ^ S 0
  | 0 => hW
  | j + 1 => zdif_lt (zlf_lt hW j)
theorem zlf_sub : ∀ j i, (zlf S W j).testBit i = true → W.testBit i = true
  | 0, i, h => h
  | j + 1, i, h => by
    rw [zlf, zdif_bit, Bool.and_eq_true] at h
    exact zlf_sub j i h.1
/-- nothing that is left hangs on what was taken away -/
theorem zlf_shut (hS : zwf S) (hW : W < 2 ^ S 0) : ∀ j c i, (zlf S W j).testBit c = true → (znx (S 1) (S 0) c).testBit i = true → W.testBit i = true → (zlf S W j).testBit i = true
  | 0, c, i, _, _, h => h
  | j + 1, c, i, h1, h2, h3 => by
    rw [zlf, zdif_bit, Bool.and_eq_true] at h1 ⊢
    have hn := hS.n
    have hp := zpow10 hn
    have hl := zlf_lt hW j
    refine ⟨zlf_shut hS hW j c i h1.1 h2 h3, ?_⟩
    cases hi : (zcomp S W (2 ^ zlow (zlf S W j))).testBit i
    · rfl
    · exfalso
      have hne : zlf S W j ≠ 0 := fun e => by rw [e, Nat.zero_testBit] at h1; cases h1.1
      have hlow := (zlow_lt (zlf S W j) (by omega) hne).1
      have hcW := zlf_sub j c h1.1
      have hc := zbit_lt hW hcW
      have hiW := zbit_lt hW h3
      have := zcomp_next (c := i) (i := c) (by omega) (zpow_lt hlow) hiW hi (by rw [znx_sym _ (hS.sh (by omega)) i hiW c hc]; exact h2) hcW
      rw [this] at h1
      cases h1.2
theorem zcomp_left (hS : zwf S) (hW : W < 2 ^ S 0) {j : Nat} (h0 : zlf S W j ≠ 0) : zcomp S (zlf S W j) (2 ^ zlow (zlf S W j)) = zcomp S W (2 ^ zlow (zlf S W j)) := by
  have hn := hS.n
  have hp := zpow10 hn
  have hl := zlf_lt hW j
  obtain ⟨l1, l2, l3⟩ := zlow_lt (zlf S W j) (by omega) h0
  have hpw := zpow_lt l1
  have hin : ∀ i, (2 ^ zlow (zlf S W j)).testBit i = true → (zlf S W j).testBit i = true := fun i hi => by
    rw [zpow_bit.mp hi]; exact l2
  apply Nat.eq_of_testBit_eq
  intro i
  have a1 : (zcomp S (zlf S W j) (2 ^ zlow (zlf S W j))).testBit i = true → (zcomp S W (2 ^ zlow (zlf S W j))).testBit i = true :=
    zcomp_least (fun i hi => zcomp_in hi) (fun c i hc h1 h2 h3 => zcomp_next (by omega) hpw hc h1 h2 (zlf_sub j i h3)) i
  have a2 : (zcomp S W (2 ^ zlow (zlf S W j))).testBit i = true → (zcomp S (zlf S W j) (2 ^ zlow (zlf S W j))).testBit i = true :=
    zcomp_least (fun i hi => zcomp_in hi) (fun c i hc h1 h2 h3 => zcomp_next (by omega) hpw hc h1 h2 (zlf_shut hS hW j c i (zcomp_sub hin c h1) h2 h3)) i
  cases h1 : (zcomp S (zlf S W j) (2 ^ zlow (zlf S W j))).testBit i
  · cases h2 : (zcomp S W (2 ^ zlow (zlf S W j))).testBit i
    · rfl
    · rw [a2 h2] at h1; cases h1
  · rw [a1 h1]
theorem zlf_pop (hS : zwf S) (hW : W < 2 ^ S 0) : ∀ j, zlf S W j = 0 ∨ zpop (zlf S W j) + j ≤ 10
  | 0 => Or.inr (by have := zpop_le W; simpa [zlf] using this)
  | j + 1 => by
    have hn := hS.n
    have hp := zpow10 hn
    have hl := zlf_lt hW j
    rcases zlf_pop hS hW j with h | h
    · left; rw [zlf, h, zdif_zero]
    · by_cases h0 : zlf S W j = 0
      · left; rw [zlf, h0, zdif_zero]
      · right
        obtain ⟨l1, l2, l3⟩ := zlow_lt (zlf S W j) (by omega) h0
        have hlt : zpop (zlf S W (j + 1)) < zpop (zlf S W j) := by
          refine zpop_lt (by omega) (fun i hi => ?_) (fun e => ?_)
          · rw [zlf, zdif_bit, Bool.and_eq_true] at hi
            exact hi.1
          · have e2 := congrArg (fun z => z.testBit (zlow (zlf S W j))) e
            simp only [zlf, zdif_bit, l2, Bool.true_and] at e2
            rw [zcomp_in Nat.testBit_two_pow_self] at e2
            cases e2
        omega
theorem zpop_pos {x : Nat} (h : x < 1024) (h0 : x ≠ 0) : 0 < zpop x := by
  have := zpop_lt (x := 0) h (fun i hi => by rw [Nat.zero_testBit] at hi; cases hi) (fun e => h0 e.symm)
  omega
theorem zlf_10 (hS : zwf S) (hW : W < 2 ^ S 0) : zlf S W 10 = 0 := by
  have hn := hS.n
  have hp := zpow10 hn
  have hl := zlf_lt hW 10
  rcases zlf_pop hS hW 10 with h | h
  · exact h
  · refine Classical.byContradiction fun h0 => ?_
    have := zpop_pos (by omega) h0
    omega
theorem zpn_spec (hS : zwf S) (hW : W < 2 ^ S 0) : zpn S W ≤ 10 ∧ (∀ j, j < zpn S W → zlf S W j ≠ 0) ∧ zlf S W (zpn S W) = 0 := by
  obtain ⟨h1, h2, h3⟩ := zfz_spec (f := zlf S W) 10 0
  unfold zpn
  refine ⟨by omega, fun j hj => h2 j (by omega) hj, ?_⟩
  by_cases h : zfz (zlf S W) 10 0 < 10
  · exact h3 (by omega)
  · have : zfz (zlf S W) 10 0 = 10 := by omega
    rw [this]
    exact zlf_10 hS hW
theorem zlf_stay {j : Nat} (h : zlf S W j = 0) : ∀ k, zlf S W (j + k) = 0
  | 0 => h
  | k + 1 => by
    show zdif (zlf S W (j + k)) _ = 0
    rw [zlf_stay h k, zdif_zero]
theorem zcomp_pos {p : Nat} (h0 : p ≠ 0) (hp : p < 1024) : zcomp S W p ≠ 0 := by
  intro e
  obtain ⟨-, l2, -⟩ := zlow_lt p hp h0
  have := zcomp_in (S := S) (W := W) l2
  rw [e, Nat.zero_testBit] at this
  cases this
end ZG
section ZX19
variable {d : Nat} {M : ZM} {S : Nat → Nat} {b W : Nat}
theorem s_countParts (hd : 3 ≤ d) (hb : zsh b) (hS : zwf S) (hSh : zSheet S b M) (hW : W < 2 ^ S 0) : (zenv zbt d).1 73 [.ref b, .int (nI W)] M = some (nI (zpn S W), M) := by
  obtain ⟨d, rfl⟩ : ∃ e, d = e + 1 := ⟨d - 1, by omega⟩
  have hp := zpow10 hS.n
  obtain ⟨n1, n2, n3⟩ := zpn_spec hS hW
  have key : ∀ i, i ≤ zpn S W → zL (zenv zbt d) tb_X5_countParts cu_X5_countParts 4 [some (.ref b), some (.int (nI W)), some (.int (nI (zlf S W i))), some (.int (nI i))] [] M (some (.int (nI (zpn S W))), M) := by
    apply zup
    · apply zL_of; rw [e_X5_countParts_4 _ _ _ hb, n3]
      by_cases h : (10 : Int32) ≤ nI (zpn S W)
      · rw [if_pos h]; rfl
      · rw [if_neg h, if_pos (show nI 0 = (0 : Int32) from rfl)]; rfl
    · intro i hi ih
      have hl := zlf_lt hW i
      have h0 := n2 i hi
      obtain ⟨l1, l2, l3⟩ := zlow_lt (zlf S W i) (by omega) h0
      apply zL_of; rw [e_X5_countParts_4 _ _ _ hb, if_neg (show ¬ ((10 : Int32) ≤ nI i) from nI_ge (show i < 10 by omega) (by decide)), if_neg (nI_ne0 (by omega) (by omega)), s_lowestOneBit (by omega) (by omega) h0, Option.bind_some]
      dsimp only
      rw [s_partAround (by omega) hb hS hSh (zpow_lt l1) (by omega), Option.bind_some]
      dsimp only
      rw [zandn (by omega)]
      apply zPo_go
      simpa only [zlit, nI_add, zlf] using ih
  apply c_X5_countParts
  apply zL_of; rw [e_X5_countParts_0 _ _ _ hb]; apply zPo_go
  exact key 0 (by omega)
theorem s_partOf (hd : 3 ≤ d) (hS : zwf S) (hM : zMod S M) (hW : W < 2 ^ S 0) {k : Nat} (hk : k < 100) : (zenv zbt d).1 190 [.ref 66, .int (nI W), .int (nI k)] M = some (nI (zpt S W k), M) := by
  obtain ⟨d, rfl⟩ : ∃ e, d = e + 1 := ⟨d - 1, by omega⟩
  have hp := zpow10 hS.n
  have key : ∀ i, i ≤ k → zL (zenv zbt d) tb_X8_partOf cu_X8_partOf 5 [some (.ref 66), none, some (.int (nI k)), some (.int (nI (zlf S W i))), some (.int (nI i))] [] M (some (.int (nI (zpt S W k))), M) := by
    apply zup
    · have hl := zlf_lt hW k
      apply zL_of; rw [e_X8_partOf_5, if_pos (nI_le (Nat.le_refl _) (by omega))]
      unfold zpt
      by_cases h0 : zlf S W k = 0
      · rw [h0, if_pos (by decide), if_pos rfl]; rfl
      · obtain ⟨l1, l2, l3⟩ := zlow_lt (zlf S W k) (by omega) h0
        rw [if_neg (nI_nle (by omega) (by omega)), if_neg h0, s_lowest (by omega) (by omega) h0, Option.bind_some]
        dsimp only
        rw [s_reach (by omega) hS hM (by omega) l1, Option.bind_some, zcomp_left hS hW h0]; rfl
    · intro i hi ih
      have hl := zlf_lt hW i
      apply zL_of; rw [e_X8_partOf_5, if_neg (nI_ge hi (by omega))]
      by_cases h0 : zlf S W i = 0
      · have hk0 : zlf S W k = 0 := by
          have := zlf_stay h0 (k - i)
          rwa [show i + (k - i) = k by omega] at this
        unfold zpt
        rw [h0, if_pos (by decide), if_pos (by decide), if_pos hk0]; rfl
      · obtain ⟨l1, l2, l3⟩ := zlow_lt (zlf S W i) (by omega) h0
        rw [if_neg (nI_nle (by omega) (by omega)), s_lowest (by omega) (by omega) h0, Option.bind_some]
        dsimp only
        rw [s_reach (by omega) hS hM (by omega) l1, Option.bind_some, zcomp_left hS hW h0]
        dsimp only
        rw [zandn (by omega)]
        apply zPo_go
        simpa only [zlit, nI_add, zlf] using ih
  apply c_X8_partOf
  apply zL_of; rw [e_X8_partOf_0]; apply zPo_go
  exact key 0 (by omega)
theorem zpt_pos (hS : zwf S) (hW : W < 2 ^ S 0) {k : Nat} : (0 < zpt S W k ↔ zlf S W k ≠ 0) ∧ zpt S W k < 1024 := by
  have hp := zpow10 hS.n
  have hl := zlf_lt hW k
  unfold zpt
  by_cases h0 : zlf S W k = 0
  · rw [if_pos h0]; simp [h0]
  · obtain ⟨l1, l2, l3⟩ := zlow_lt (zlf S W k) (by omega) h0
    rw [if_neg h0]
    have h1 := zcomp_pos (S := S) (W := W) (p := 2 ^ zlow (zlf S W k)) (by have := Nat.two_pow_pos (zlow (zlf S W k)); omega) (zpow_lt l1)
    exact ⟨⟨fun _ => h0, fun _ => by omega⟩, zcomp_lt (by omega) (zpow_lt l1)⟩
theorem s_manyParts (hd : 4 ≤ d) (hS : zwf S) (hM : zMod S M) (hW : W < 2 ^ S 0) : (zenv zbt d).1 191 [.ref 66, .int (nI W)] M = some (nI (zpn S W), M) := by
  obtain ⟨d, rfl⟩ : ∃ e, d = e + 1 := ⟨d - 1, by omega⟩
  obtain ⟨n1, n2, n3⟩ := zpn_spec hS hW
  have key : ∀ i, i ≤ zpn S W → zL (zenv zbt d) tb_X8_manyParts cu_X8_manyParts 2 [some (.ref 66), some (.int (nI W)), some (.int (nI i))] [] M (some (.int (nI (zpn S W))), M) := by
    apply zup
    · apply zL_of; rw [e_X8_manyParts_2, s_partOf (by omega) hS hM hW (by omega), Option.bind_some]
      dsimp only
      have : zpt S W (zpn S W) = 0 := by unfold zpt; rw [if_pos n3]
      rw [this, if_pos (by decide)]; rfl
    · intro i hi ih
      obtain ⟨q1, q2⟩ := zpt_pos hS hW (k := i)
      have q3 := q1.mpr (n2 i hi)
      apply zL_of; rw [e_X8_manyParts_2, s_partOf (by omega) hS hM hW (by omega), Option.bind_some]
      dsimp only
      rw [if_neg (nI_nle q3 (by omega))]
      apply zPo_go
      simpa only [zlit, nI_add] using ih
  apply c_X8_manyParts
  apply zL_of; rw [e_X8_manyParts_0]; apply zPo_go
  exact key 0 (by omega)
/-- the part by a number: what both answer -/
def zptA (S : Nat → Nat) (W : Nat) (x : Int32) : Int32 := if zin x 10 then (if zlf S W x.toNatClampNeg = 0 then -1000000 else nI (zpt S W x.toNatClampNeg)) else -1000000
theorem s_partNumber (hd : 3 ≤ d) (hb : zsh b) (hS : zwf S) (hSh : zSheet S b M) {x : Int32} (hx : ¬ x < 0) : (zenv zbt d).1 74 [.ref b, .int x] M = some (zptA S (zon S) x, M) := by
  obtain ⟨d, rfl⟩ : ∃ e, d = e + 1 := ⟨d - 1, by omega⟩
  have hp := zpow10 hS.n
  obtain ⟨k, hk, rfl⟩ := nI_of hx
  have hW : zon S < 2 ^ S 0 := zon_lt
  have h5 := hSh.2.2.2.2.2.1
  obtain ⟨n1, n2, n3⟩ := zpn_spec hS hW
  have hA : zptA S (zon S) (nI k) = if k < zpn S (zon S) then nI (zpt S (zon S) k) else -1000000 := by
    unfold zptA
    rw [zcN hk]
    by_cases h : k < zpn S (zon S)
    · rw [if_pos h, zinN (by omega) (by decide), if_pos rfl, if_neg (n2 k h)]
    · rw [if_neg h]
      by_cases h2 : k < 10
      · have : zlf S (zon S) k = 0 := by
          have := zlf_stay n3 (k - zpn S (zon S))
          rwa [show zpn S (zon S) + (k - zpn S (zon S)) = k by omega] at this
        rw [zinN h2 (by decide), if_pos rfl, if_pos this]
      · have : zin (nI k) 10 = false := by
          cases q : zin (nI k) 10
          · rfl
          · have := (zin_int.mp q).2
            rw [nI_toInt hk] at this
            omega
        rw [this]; rfl
  rw [hA]
  have key : ∀ i, i ≤ zpn S (zon S) → i ≤ k → zL (zenv zbt d) tb_X5_partNumber cu_X5_partNumber 7 [some (.ref b), some (.int (nI k)), some (.int (nI (zlf S (zon S) i))), some (.int (nI i)), none] [] M (some (.int (if k < zpn S (zon S) then nI (zpt S (zon S) k) else -1000000)), M) := by
    apply zup
    · intro hk2
      apply zL_of; rw [e_X5_partNumber_7 _ _ _ hb, n3, if_neg (show ¬ k < zpn S (zon S) by omega)]
      by_cases h : (10 : Int32) ≤ nI (zpn S (zon S))
      · rw [if_pos h]; rfl
      · rw [if_neg h, if_pos (show nI 0 = (0 : Int32) from rfl)]; rfl
    · intro i hi ih hk2
      have hl := zlf_lt hW i
      have h0 := n2 i hi
      obtain ⟨l1, l2, l3⟩ := zlow_lt (zlf S (zon S) i) (by omega) h0
      apply zL_of; rw [e_X5_partNumber_7 _ _ _ hb, if_neg (show ¬ ((10 : Int32) ≤ nI i) from nI_ge (show i < 10 by omega) (by decide)), if_neg (nI_ne0 (by omega) (by omega)), s_lowestOneBit (by omega) (by omega) h0, Option.bind_some]
      dsimp only
      rw [h5, s_partAround (by omega) hb hS hSh (zpow_lt l1) (by omega), Option.bind_some]
      dsimp only
      by_cases e : i = k
      · subst e
        rw [if_pos rfl, if_pos hi]
        unfold zpt
        rw [if_neg h0]; rfl
      · rw [if_neg (fun q => e ((nI_eq (by omega) hk).mp q)), zandn (by omega)]
        apply zPo_go
        simpa only [zlit, nI_add, zlf] using ih (by omega)
  apply c_X5_partNumber
  apply zL_of; rw [e_X5_partNumber_0 _ _ _ hb, h5]; apply zPo_go
  exact key 0 (by omega) (by omega)
end ZX19

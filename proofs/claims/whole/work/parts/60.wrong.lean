/-! How likely no more than so many are lost: the numbers; the class -/
theorem zsum_add {f g : Nat → Nat} : ∀ n, zsum (fun i => f i + g i) n = zsum f n + zsum g n
  | 0 => rfl
  | n + 1 => by rw [zsum, zsum, zsum, zsum_add n]; omega
theorem zsum_z : ∀ n, zsum (fun _ => 0) n = 0
  | 0 => rfl
  | n + 1 => by rw [zsum, zsum_z n]
theorem zsum_comm {f : Nat → Nat → Nat} {m : Nat} : ∀ n, zsum (fun c => zsum (fun i => f c i) m) n = zsum (fun i => zsum (fun c => f c i) n) m
  | 0 => by
    show 0 = zsum (fun _ => 0) m
    rw [zsum_z]
  | n + 1 => by
    rw [zsum, zsum_comm n]
    show _ = zsum (fun i => zsum (fun c => f c i) n + f n i) m
    rw [zsum_add]
theorem zsum_zero {f : Nat → Nat} {m : Nat} : ∀ {n : Nat}, m ≤ n → (∀ i, m ≤ i → i < n → f i = 0) → zsum f n = zsum f m
  | 0, h, _ => by have : m = 0 := by omega
                  rw [this]
  | n + 1, h, hz => by
    by_cases hm : m = n + 1
    · rw [hm]
    · rw [zsum, zsum_zero (n := n) (by omega) (fun i h1 h2 => hz i h1 (by omega)), hz n (by omega) (by omega), Nat.add_zero]
theorem zpop_n {x N : Nat} (hx : x < 2 ^ N) (hN : N ≤ 10) : zpop x = zsum (fun i => (x.testBit i).toNat) N := zsum_zero hN (fun i h1 _ => by
  rw [Nat.testBit_lt_two_pow (Nat.lt_of_lt_of_le hx (Nat.pow_le_pow_right (by decide) h1))]; rfl)
/-- how many perforations of a cell go wrong with it -/
def ztc (S : Nat → Nat) (s c : Nat) : Nat := if (zdif (zon S) s).testBit c then zpop (znx (S 1) (S 0) c &&& s) else 0
def zLw (S : Nat → Nat) (s p : Nat) : Nat → Nat → Nat
  | 0, j => if j = 0 then 1 else 0
  | c + 1, j => zLw S s p c j * (10 - p) ^ ztc S s c + (if 0 < j then zLw S s p c (j - 1) * (10 ^ ztc S s c - (10 - p) ^ ztc S s c) else 0)
def zBw (S : Nat → Nat) (s : Nat) : Nat → Nat
  | 0 => 1
  | c + 1 => zBw S s c * 10 ^ ztc S s c
section ZX50
variable {d : Nat} {M : ZM} {S : Nat → Nat} {b : Nat}
theorem zBw_eq {s : Nat} : ∀ n, zBw S s n = 10 ^ zsum (ztc S s) n
  | 0 => rfl
  | n + 1 => by rw [zBw, zBw_eq n, zsum, Nat.pow_add]
theorem zLw_s {s p c : Nat} : ∀ k, zsum (zLw S s p (c + 1)) (k + 1) = zsum (zLw S s p c) (k + 1) * (10 - p) ^ ztc S s c + zsum (zLw S s p c) k * (10 ^ ztc S s c - (10 - p) ^ ztc S s c)
  | 0 => by
    simp only [zsum, Nat.zero_add, Nat.zero_mul, Nat.add_zero]
    rw [zLw, if_neg (by omega), Nat.add_zero]
  | k + 1 => by
    rw [zsum, zLw_s k]
    conv => rhs; rw [zsum]
    rw [show zsum (zLw S s p c) (k + 1) = zsum (zLw S s p c) k + zLw S s p c k from rfl, zLw, if_pos (by omega), Nat.add_sub_cancel]
    simp only [Nat.add_mul]
    omega
theorem zLw_le {s p : Nat} (c : Nat) : ∀ k, zsum (zLw S s p c) k ≤ zBw S s c := by
  induction c with
  | zero =>
    intro k
    show zsum (fun j => if j = 0 then 1 else 0) k ≤ 1
    cases k with
    | zero => exact Nat.zero_le _
    | succ k =>
      rw [zsum_zero (m := 1) (by omega) (fun i h1 _ => by rw [if_neg (by omega)])]
      simp [zsum]
  | succ c ih =>
    intro k
    cases k with
    | zero => exact Nat.zero_le _
    | succ k =>
      rw [zLw_s, zBw]
      have h1 : (10 - p) ^ ztc S s c ≤ 10 ^ ztc S s c := Nat.pow_le_pow_left (by omega) _
      calc zsum (zLw S s p c) (k + 1) * (10 - p) ^ ztc S s c + zsum (zLw S s p c) k * (10 ^ ztc S s c - (10 - p) ^ ztc S s c)
          ≤ zBw S s c * (10 - p) ^ ztc S s c + zBw S s c * (10 ^ ztc S s c - (10 - p) ^ ztc S s c) := Nat.add_le_add (Nat.mul_le_mul_right _ (ih _)) (Nat.mul_le_mul_right _ (ih _))
        _ = zBw S s c * 10 ^ ztc S s c := by rw [← Nat.mul_add, Nat.add_sub_cancel' h1]
theorem zLw_0 {s p c : Nat} (h : ztc S s c = 0) (j : Nat) : zLw S s p (c + 1) j = zLw S s p c j := by
  rw [zLw, h]
  simp
theorem ztc_sum (hW : zwf S) {s : Nat} (hs : s < 2 ^ S 0) : zsum (ztc S s) (S 0) = ztear S (zon S) s := by
  have hn := hW.n
  have e1 : ∀ c, c < S 0 → ztc S s c = zsum (fun i => (((zon S).testBit c && !s.testBit c) && ((znx (S 1) (S 0) c).testBit i && s.testBit i)).toNat) (S 0) := by
    intro c hc
    unfold ztc
    rw [zdif_bit, zpop_n (Nat.and_lt_two_pow _ hs) hn]
    cases ((zon S).testBit c && !s.testBit c)
    · rw [if_neg (by decide)]
      simp only [Bool.false_and]
      exact (zsum_z _).symm
    · rw [if_pos rfl]
      exact zsum_congr (fun i _ => by rw [Nat.testBit_and, Bool.true_and])
  have e2 : ∀ c, c < S 0 → (if s.testBit c then zpop (zdif (znx (S 1) (S 0) c &&& zon S) s) else 0) = zsum (fun i => (((zon S).testBit i && !s.testBit i) && ((znx (S 1) (S 0) i).testBit c && s.testBit c)).toNat) (S 0) := by
    intro c hc
    rw [zpop_n (N := S 0) (zdif_lt (Nat.and_lt_two_pow _ zon_lt)) hn]
    cases s.testBit c
    · rw [if_neg (by decide)]
      simp only [Bool.and_false]
      exact (zsum_z _).symm
    · rw [if_pos rfl]
      refine zsum_congr (fun i hi => ?_)
      rw [zdif_bit, Nat.testBit_and, znx_sym _ (hW.sh (by omega)) c hc i hi]
      cases (znx (S 1) (S 0) i).testBit c <;> cases (zon S).testBit i <;> cases s.testBit i <;> rfl
  unfold ztear
  rw [zsum_congr e1, zsum_congr e2, zsum_comm]
theorem znx_tot : ∀ q ∈ zshp, zsum (fun c => zpop (znx q.1 q.2 c)) q.2 ≤ 26 := by decide +kernel
theorem ztear_13 (hW : zwf S) {s : Nat} (hs : s < 2 ^ S 0) : ztear S (zon S) s ≤ 13 := by
  have hn := hW.n
  by_cases h0 : S 0 = 0
  · unfold ztear
    rw [h0]; exact Nat.zero_le _
  have h1 := ztc_sum hW hs
  have h2 : zsum (fun c => ztc S s c + (if s.testBit c then zpop (zdif (znx (S 1) (S 0) c &&& zon S) s) else 0)) (S 0) ≤ zsum (fun c => zpop (znx (S 1) (S 0) c)) (S 0) := zsum_mono (fun c hc => by
    unfold ztc
    rw [zdif_bit]
    cases q : s.testBit c
    · rw [if_neg (show ¬ (false = true) by decide), Nat.add_zero]
      split
      · exact zpop_mono (fun i hi => by rw [Nat.testBit_and, Bool.and_eq_true] at hi; exact hi.1)
      · exact Nat.zero_le _
    · rw [if_pos rfl, if_neg (by simp), Nat.zero_add]
      exact zpop_mono (fun i hi => by
        rw [zdif_bit, Nat.testBit_and, Bool.and_eq_true, Bool.and_eq_true] at hi
        exact hi.1.1))
  rw [zsum_add, h1] at h2
  have h3 := znx_tot _ (hW.sh (by omega))
  dsimp only at h3
  have h4 : zsum (fun c => if s.testBit c then zpop (zdif (znx (S 1) (S 0) c &&& zon S) s) else 0) (S 0) = ztear S (zon S) s := rfl
  rw [h4] at h2
  omega
theorem s_fillL (hd : 1 ≤ d) {a : Nat} (ht : zty a 1 = true) (hl : zln a < 2 ^ 31) (v : Int64) : ∃ M', (zenv zbt d).2.2 236 [.ref a, .long v] M = some M' ∧ zFr [a] M M' ∧ ∀ j, j < zln a → M'.2 a j = v := by
  obtain ⟨d, rfl⟩ : ∃ e, d = e + 1 := ⟨d - 1, by omega⟩
  have key : ∀ i, i ≤ zln a → ∀ Mk, zFr [a] M Mk → (∀ j, j < i → Mk.2 a j = v) → ∃ M', zL (zenv zbt d) tb_J7_fill_d0a16 cu_J7_fill_d0a16 6 [some (.ref a), some (.long v), none, some (.int (nI i)), some (.int (nI (zln a)))] [] Mk (none, M') ∧ zFr [a] M M' ∧ ∀ j, j < zln a → M'.2 a j = v := by
    apply zup
    · intro Mk hf hv
      refine ⟨Mk, ?_, hf, hv⟩
      apply zL_of; rw [e_J7_fill_d0a16_6, if_pos (nI_le (Nat.le_refl _) hl)]; rfl
    · intro i hi ih Mk hf hv
      obtain ⟨M', g1, g2⟩ := ih (zwl Mk a i v) (hf.wl (by simp)) (fun j hj => by
        by_cases q : j = i
        · rw [q, zwl_eq]
        · rw [zwl_nk q]; exact hv j (by omega))
      refine ⟨M', ?_, g2⟩
      apply zL_of; rw [e_J7_fill_d0a16_6, if_neg (nI_ge hi hl), ht, Bool.true_and, zck_t (zinN hi hl), zcN (by omega), nI_1]
      exact zPo_go g1
  obtain ⟨M', g1, g2⟩ := key 0 (Nat.zero_le _) M zFr.rf (fun j hj => by omega)
  refine ⟨M', ?_, g2⟩
  apply c_J7_fill_d0a16
  apply zL_of; rw [e_J7_fill_d0a16_0, zck_t ht]
  exact zPo_go g1
theorem s_powerOf (hd : 1 ≤ d) {a n : Nat} (hn : n < 2 ^ 31) : (zenv zbt d).2.1 134 [.long (lN a), .int (nI n)] M = some (lN (a ^ n), M) := by
  obtain ⟨d, rfl⟩ : ∃ e, d = e + 1 := ⟨d - 1, by omega⟩
  have key : ∀ i, i ≤ n → zL (zenv zbt d) tb_X7_powerOf cu_X7_powerOf 5 [some (.long (lN a)), none, some (.int (nI n)), some (.long (lN (a ^ i))), none, some (.int (nI i))] [] M (some (.long (lN (a ^ n))), M) := by
    apply zup
    · apply zL_of; rw [e_X7_powerOf_5, if_pos (nI_le (Nat.le_refl _) hn)]; rfl
    · intro i hi ih
      apply zL_of; rw [e_X7_powerOf_5, if_neg (nI_ge hi hn), lN_mul, nI_1]
      exact zPo_go ih
  apply c_X7_powerOf
  apply zL_of; rw [e_X7_powerOf_0]
  exact zPo_go (key 0 (by omega))
theorem s_addStamp (hd : 1 ≤ d) {L : Nat → Nat} {r w : Nat} (hL : ∀ j, j < 11 → M.2 60 j = lN (L j)) : ∃ M', (zenv zbt d).2.2 37 [.ref 53, .long (lN r), .long (lN w)] M = some M' ∧ zFr [60] M M' ∧ ∀ j, j < 11 → M'.2 60 j = lN (L j * r + (if 0 < j then L (j - 1) * w else 0)) := by
  obtain ⟨d, rfl⟩ : ∃ e, d = e + 1 := ⟨d - 1, by omega⟩
  have key : ∀ n, n ≤ 10 → ∀ Mk, zFr [60] M Mk → (∀ j, j < 11 → Mk.2 60 j = lN (if n < j then L j * r + (if 0 < j then L (j - 1) * w else 0) else L j)) → ∃ M', zL (zenv zbt d) tb_X2_addStamp cu_X2_addStamp 4 [some (.ref 53), some (.long (lN r)), none, some (.long (lN w)), none, some (.int (nI n))] [] Mk (none, M') ∧ zFr [60] M M' ∧ ∀ j, j < 11 → M'.2 60 j = lN (L j * r + (if 0 < j then L (j - 1) * w else 0)) := by
    intro n
    induction n with
    | zero =>
      intro _ Mk hf hv
      have h0 := hv 0 (by omega)
      rw [if_neg (by omega)] at h0
      refine ⟨zwl Mk 60 0 (lN (L 0 * r)), ?_, hf.wl (by decide), fun j hj => ?_⟩
      · apply zL_of; rw [e_X2_addStamp_4, if_pos (by decide), h0, lN_mul]; rfl
      · by_cases q : j = 0
        · rw [q, zwl_eq, if_neg (by omega), Nat.add_zero]
        · rw [zwl_nk q, hv j hj, if_pos (by omega)]
    | succ n ih =>
      intro hn Mk hf hv
      have h1 := hv (n + 1) (by omega)
      have h0 := hv n (by omega)
      rw [if_neg (by omega)] at h1 h0
      obtain ⟨M', g1, g2⟩ := ih (by omega) (zwl Mk 60 (n + 1) (lN (L (n + 1) * r + L n * w))) (hf.wl (by decide)) (fun j hj => by
        by_cases q : j = n + 1
        · rw [q, zwl_eq, if_pos (by omega), if_pos (by omega), Nat.add_sub_cancel]
        · rw [zwl_nk q, hv j hj]
          by_cases q2 : n + 1 < j
          · rw [if_pos q2, if_pos (show n < j by omega)]
          · rw [if_neg q2, if_neg (show ¬ n < j by omega)])
      refine ⟨M', ?_, g2⟩
      apply zL_of; rw [e_X2_addStamp_4, if_neg (nI_nle (by omega) (by omega)), zck_t (zinN (by omega) (by decide)), show nI (n + 1) - 1 = nI n from pk_sub (a := n + 1) (b := 1) (by omega), zck_t (zinN (by omega) (by decide)), zck_t (zinN (by omega) (by decide)), zcN (by omega), zcN (by omega), h1, h0, lN_mul, lN_mul, lN_add, pk_m1]
      exact zPo_go g1
  obtain ⟨M', g1, g2⟩ := key 10 (Nat.le_refl _) M zFr.rf (fun j hj => by rw [if_neg (by omega)]; exact hL j hj)
  refine ⟨M', ?_, g2⟩
  apply c_X2_addStamp
  apply zL_of; rw [e_X2_addStamp_0]
  exact zPo_go g1
theorem s_casesC (hd : 2 ≤ d) (hb : zsh b) (hW : zwf S) (hS : zSheet S b M) {s k p : Nat} (hs : s < 2 ^ S 0) (hk : k ≤ 10) (hp : p ≤ 10) : ∃ M', (zenv zbt d).2.1 36 [.ref 53, .ref b, .int (nI s), .int (nI k), .int (nI p)] M = some (lN (zsum (zLw S s p (S 0)) (k + 1)), M') ∧ zFr [60] M M' := by
  obtain ⟨d, rfl⟩ : ∃ e, d = e + 1 := ⟨d - 1, by omega⟩
  have hn10 := hW.n
  have hp10 := zpow10 hn10
  have hon := hW.on
  have hbc : ∀ j, j < 7 → b + j ∉ [60] := by
    intro j hj
    rcases hb with rfl | rfl <;> simp <;> omega
  have last : ∀ Mk, zFr [60] M Mk → (∀ j, j < 11 → Mk.2 60 j = lN (zLw S s p (S 0) j)) → ∀ j, j ≤ k + 1 → zL (zenv zbt d) tb_X2_casesOfFewLost cu_X2_casesOfFewLost 104 [some (.ref 53), none, none, some (.int (nI k)), none, some (.long (lN (zsum (zLw S s p (S 0)) j))), none, some (.int (nI j)), none] [] Mk (some (.long (lN (zsum (zLw S s p (S 0)) (k + 1)))), Mk) := by
    intro Mk hf hv
    apply zup
    · apply zL_of; rw [e_X2_casesOfFewLost_104, if_pos (nI_lt (by omega) (by omega))]; rfl
    · intro j hj ih
      apply zL_of; rw [e_X2_casesOfFewLost_104, if_neg (nI_nlt (by omega) (by omega)), if_neg (show ¬ ((10 : Int32) < nI j) from nI_nlt (a := 10) (by omega) (by decide)), zck_t (zinN (by omega) (by decide)), zcN (by omega), hv j (by omega), lN_add, nI_1]
      exact zPo_go ih
  have key : ∀ c, c ≤ S 0 → ∀ Mk, zFr [60] M Mk → (∀ j, j < 11 → Mk.2 60 j = lN (zLw S s p c j)) → ∃ M', zL (zenv zbt d) tb_X2_casesOfFewLost cu_X2_casesOfFewLost 18 [some (.ref 53), some (.ref b), some (.int (nI s)), some (.int (nI k)), some (.int (nI p)), some (.int (nI c)), none, none, none] [] Mk (some (.long (lN (zsum (zLw S s p (S 0)) (k + 1)))), M') ∧ zFr [60] M M' := by
    apply zup
    · intro Mk hf hv
      refine ⟨Mk, ?_, hf⟩
      apply zL_of; rw [e_X2_casesOfFewLost_18 _ _ _ hb, (hS.fr hf hbc).2.1, if_pos (nI_le (Nat.le_refl _) (by omega))]
      exact zPo_go (last Mk hf hv 0 (by omega))
    · intro c hc ih Mk hf hv
      have hSk := hS.fr hf hbc
      have hand : znx (S 1) (S 0) c &&& s < 1024 := Nat.lt_of_le_of_lt Nat.and_le_right (by omega)
      have hpl := zpop_le (znx (S 1) (S 0) c &&& s)
      have hdl := zdif_le (zon S) s
      have skip : ztc S s c = 0 → ∃ M', zL (zenv zbt d) tb_X2_casesOfFewLost cu_X2_casesOfFewLost 18 [some (.ref 53), some (.ref b), some (.int (nI s)), some (.int (nI k)), some (.int (nI p)), some (.int (nI c + 1)), none, none, none] [] Mk (some (.long (lN (zsum (zLw S s p (S 0)) (k + 1)))), M') ∧ zFr [60] M M' := fun q => by
        rw [nI_1]
        exact ih Mk hf (fun j hj => by rw [zLw_0 q]; exact hv j hj)
      by_cases h0 : zpop (znx (S 1) (S 0) c &&& s) = 0
      · obtain ⟨M', g1, g2⟩ := skip (by unfold ztc; rw [h0]; split <;> rfl)
        refine ⟨M', ?_, g2⟩
        apply zL_of; rw [e_X2_casesOfFewLost_18 _ _ _ hb, hSk.2.1, if_neg (nI_ge hc (by omega)), zck_t (zinN (by omega) (by decide)), zcN (by omega), (hSk.2.2.2.2.2.2.2.2.1 c hc).1, zand, s_bitCount (by omega) hand, Option.bind_some]
        dsimp only
        rw [h0, if_pos (by decide)]
        exact zPo_go g1
      · cases hb2 : (zdif (zon S) s).testBit c
        · obtain ⟨M', g1, g2⟩ := skip (by unfold ztc; rw [hb2]; rfl)
          refine ⟨M', ?_, g2⟩
          apply zL_of; rw [e_X2_casesOfFewLost_18 _ _ _ hb, hSk.2.1, if_neg (nI_ge hc (by omega)), zck_t (zinN (by omega) (by decide)), zcN (by omega), (hSk.2.2.2.2.2.2.2.2.1 c hc).1, zand, s_bitCount (by omega) hand, Option.bind_some]
          dsimp only
          rw [if_neg (nI_nle (by omega) (by omega)), hSk.2.2.2.2.2.1, zandn (by omega), show zshl 1 (nI c) = nI (2 ^ c) from zshl1 (by omega), zand, zmask0.mpr hb2, if_pos zn0]
          exact zPo_go g1
        · have et : ztc S s c = zpop (znx (S 1) (S 0) c &&& s) := by unfold ztc; rw [hb2, if_pos rfl]
          have hne : ¬ (zdif (zon S) s &&& 2 ^ c = 0) := by rw [zmask0, hb2]; decide
          have hle : zdif (zon S) s &&& 2 ^ c ≤ zdif (zon S) s := Nat.and_le_left
          have h1 : (10 - p) ^ ztc S s c ≤ 10 ^ ztc S s c := Nat.pow_le_pow_left (by omega) _
          obtain ⟨M2, e2, f2, g2⟩ := s_addStamp (d := d) (M := Mk) (L := zLw S s p c) (r := (10 - p) ^ ztc S s c) (w := 10 ^ ztc S s c - (10 - p) ^ ztc S s c) (by omega) hv
          obtain ⟨M', g3, g4⟩ := ih M2 (hf.trans f2) (fun j hj => by rw [g2 j hj, zLw])
          refine ⟨M', ?_, g4⟩
          apply zL_of; rw [e_X2_casesOfFewLost_18 _ _ _ hb, hSk.2.1, if_neg (nI_ge hc (by omega)), zck_t (zinN (by omega) (by decide)), zcN (by omega), (hSk.2.2.2.2.2.2.2.2.1 c hc).1, zand, s_bitCount (by omega) hand, Option.bind_some]
          dsimp only
          rw [if_neg (nI_nle (by omega) (by omega)), hSk.2.2.2.2.2.1, zandn (by omega), show zshl 1 (nI c) = nI (2 ^ c) from zshl1 (by omega), zand, if_neg (nI_ne0 (by omega) (by omega)), show (10 : Int32) - nI p = nI (10 - p) from pk_sub (a := 10) hp, nI_l (by omega), s_powerOf (by omega) (by omega), Option.bind_some]
          dsimp only
          rw [show (10 : Int64) = lN 10 from rfl, s_powerOf (by omega) (by omega), Option.bind_some]
          dsimp only
          rw [← et, lN_sub h1, e2, Option.bind_some, nI_1]
          exact zPo_go g3
  obtain ⟨M1, e1, f1, g1⟩ := s_fillL (d := d) (M := M) (a := 60) (by omega) (by decide) (by decide) 0
  obtain ⟨M', g3, g4⟩ := key 0 (Nat.zero_le _) (zwl M1 60 0 1) ((f1.mono (by decide)).wl (by decide)) (fun j hj => by
    show _ = lN (if j = 0 then 1 else 0)
    by_cases q : j = 0
    · rw [q, zwl_eq, if_pos rfl]; rfl
    · rw [zwl_nk q, if_neg q, g1 j hj]; rfl)
  refine ⟨M', ?_, g4⟩
  apply c_X2_casesOfFewLost
  apply zL_of; rw [e_X2_casesOfFewLost_0 _ _ _ hb, e1, Option.bind_some]
  exact zPo_go g3
theorem zmod2 {a r : Nat} (h0 : 0 < r) (h : r < a) : 2 * (a % r) < a := by
  have h1 := Nat.mod_lt a h0
  have h2 : a % r + r * (a / r) = a := Nat.mod_add_div a r
  have h3 : 1 ≤ a / r := (Nat.le_div_iff_mul_le h0).mpr (by omega)
  have h4 : r * 1 ≤ r * (a / r) := Nat.mul_le_mul_left _ h3
  omega
theorem zgcd1 (a b : Nat) : Nat.gcd a b = Nat.gcd b (a % b) := by rw [Nat.gcd_comm a b, Nat.gcd_rec b a, Nat.gcd_comm]
theorem s_gcdC (hd : 1 ≤ d) {a e : Nat} (ha : a < 2 ^ 63) (he : e < 2 ^ 45) : (zenv zbt d).2.1 135 [.long (lN a), .long (lN e)] M = some (lN (Nat.gcd a e), M) := by
  obtain ⟨d, rfl⟩ : ∃ e, d = e + 1 := ⟨d - 1, by omega⟩
  have key : ∀ k a e i, a < 2 ^ 63 → e < 2 ^ k → k ≤ 45 → i + 2 * k < 100 → zL (zenv zbt d) tb_X7_commonDivisor cu_X7_commonDivisor 9 [none, none, none, none, some (.long (lN e)), none, some (.long (lN a)), none, some (.int (nI i)), none, none] [] M (some (.long (lN (Nat.gcd a e))), M) := by
    have stop : ∀ a i, i < 100 → zL (zenv zbt d) tb_X7_commonDivisor cu_X7_commonDivisor 9 [none, none, none, none, some (.long (lN 0)), none, some (.long (lN a)), none, some (.int (nI i)), none, none] [] M (some (.long (lN (Nat.gcd a 0))), M) := by
      intro a i hi
      apply zL_of; rw [e_X7_commonDivisor_9, if_neg (show ¬ ((100 : Int32) ≤ nI i) from nI_ge hi (by decide)), if_pos (show lg_cmp (lN 0) 0 = 0 from (lg_cmp_eq _ _).mpr rfl), Nat.gcd_zero_right]; rfl
    have step : ∀ a e i, a < 2 ^ 63 → 0 < e → e < 2 ^ 63 → i < 100 → zL (zenv zbt d) tb_X7_commonDivisor cu_X7_commonDivisor 9 [none, none, none, none, some (.long (lN (a % e))), none, some (.long (lN e)), none, some (.int (nI (i + 1))), none, none] [] M (some (.long (lN (Nat.gcd e (a % e)))), M) → zL (zenv zbt d) tb_X7_commonDivisor cu_X7_commonDivisor 9 [none, none, none, none, some (.long (lN e)), none, some (.long (lN a)), none, some (.int (nI i)), none, none] [] M (some (.long (lN (Nat.gcd a e))), M) := by
      intro a e i ha h0 he hi h
      have hne : ¬ (lN e = 0) := fun q => by
        have := (pk_lEQ (b := 0) he (by decide)).mp q
        omega
      apply zL_of; rw [e_X7_commonDivisor_9, if_neg (show ¬ ((100 : Int32) ≤ nI i) from nI_ge hi (by decide)), if_neg (fun q => hne ((lg_cmp_eq _ _).mp q)), zck_t (by rw [decide_eq_false hne]; rfl), show zlrem (lN a) (lN e) = lN (a % e) from pk_lRem ha h0 he, nI_1, zgcd1 a e]
      exact zPo_go h
    intro k
    induction k with
    | zero =>
      intro a e i ha he _ hi
      have : e = 0 := by omega
      subst this
      exact stop a i (by omega)
    | succ k ih =>
      intro a e i ha he hk hi
      have hpk : (2 : Nat) ^ (k + 1) ≤ 2 ^ 45 := Nat.pow_le_pow_right (by decide) hk
      by_cases h0 : e = 0
      · subst h0
        exact stop a i (by omega)
      · have hr := Nat.mod_lt a (show 0 < e by omega)
        refine step a e i ha (by omega) (by omega) (by omega) ?_
        by_cases h1 : a % e = 0
        · rw [h1]
          exact stop e (i + 1) (by omega)
        · refine step e (a % e) (i + 1) (by omega) (by omega) (by omega) (by omega) ?_
          have h2 := zmod2 (show 0 < a % e by omega) hr
          rw [Nat.pow_succ] at he
          exact ih (a % e) (e % (a % e)) (i + 1 + 1) (by omega) (by omega) (by omega) (by omega)
  apply c_X7_commonDivisor
  apply zL_of; rw [e_X7_commonDivisor_0]
  exact zPo_go (key 45 a e 0 ha he (by omega) (by omega))
end ZX50

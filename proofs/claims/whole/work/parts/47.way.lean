/-! way: as far from one to the other as back -/
def zfst (p : Nat → Bool) : Nat → Nat → Nat
  | 0, _ => 99
  | n + 1, k => if p k then k else zfst p n (k + 1)
theorem zfst_cg {p q : Nat → Bool} (h : ∀ k, p k = q k) : ∀ n k, zfst p n k = zfst q n k
  | 0, _ => rfl
  | n + 1, k => by rw [zfst, zfst, h k, zfst_cg h n (k + 1)]
theorem zfst_sp {p : Nat → Bool} : ∀ n k, zfst p n k = 99 ∨ (k ≤ zfst p n k ∧ zfst p n k < k + n ∧ p (zfst p n k) = true ∧ ∀ j, k ≤ j → j < zfst p n k → p j = false)
  | 0, _ => Or.inl rfl
  | n + 1, k => by
    rw [zfst]
    cases h : p k
    · rw [if_neg (by decide)]
      rcases zfst_sp n (k + 1) with h1 | ⟨h1, h2, h3, h4⟩
      · exact Or.inl h1
      · refine Or.inr ⟨by omega, by omega, h3, fun j j1 j2 => ?_⟩
        by_cases e : j = k
        · rw [e]; exact h
        · exact h4 j (by omega) j2
    · rw [if_pos rfl]
      exact Or.inr ⟨Nat.le_refl _, by omega, h, fun j j1 j2 => by omega⟩
theorem zfst_eq {p : Nat → Bool} {m : Nat} (hm : p m = true) (hl : ∀ j, j < m → p j = false) : ∀ n k, k ≤ m → m < k + n → zfst p n k = m
  | 0, k, h1, h2 => by omega
  | n + 1, k, h1, h2 => by
    rw [zfst]
    by_cases e : k = m
    · rw [e, hm, if_pos rfl]
    · rw [hl k (by omega), if_neg (by decide)]
      exact zfst_eq hm hl n (k + 1) (by omega) (by omega)
section ZX36
variable {S : Nat → Nat} {W : Nat}
theorem zR_F {k a b : Nat} : (zit S W (2 ^ a) (k + 1)).testBit b = true ↔ (zit S W (2 ^ a) k).testBit b = true ∨ (W.testBit b = true ∧ ∃ c, c < S 0 ∧ (zit S W (2 ^ a) k).testBit c = true ∧ (znx (S 1) (S 0) c).testBit b = true) := by
  rw [zit, zgrow_bit, Bool.or_eq_true, Bool.and_eq_true, znb_bit]
  constructor
  · rintro (h | ⟨h1, h2⟩)
    · exact Or.inl h
    · exact Or.inr ⟨h2, h1⟩
  · rintro (h | ⟨h1, h2⟩)
    · exact Or.inl h
    · exact Or.inr ⟨h2, h1⟩
theorem zR_B (hW : W < 2 ^ S 0) : ∀ {k a b : Nat}, a < S 0 → ((zit S W (2 ^ a) (k + 1)).testBit b = true ↔ (zit S W (2 ^ a) k).testBit b = true ∨ ∃ c, c < S 0 ∧ W.testBit c = true ∧ (znx (S 1) (S 0) a).testBit c = true ∧ (zit S W (2 ^ c) k).testBit b = true) := by
  intro k
  induction k with
  | zero =>
    intro a b ha
    rw [zR_F]
    simp only [zit]
    constructor
    · rintro (h | ⟨h1, c, h2, h3, h4⟩)
      · exact Or.inl h
      · have := zpow_bit.mp h3
        subst this
        exact Or.inr ⟨b, zlt_of_bit hW h1, h1, h4, zpow_bit.mpr rfl⟩
    · rintro (h | ⟨c, h1, h2, h3, h4⟩)
      · exact Or.inl h
      · have := zpow_bit.mp h4
        subst this
        exact Or.inr ⟨h2, a, ha, zpow_bit.mpr rfl, h3⟩
  | succ k ih =>
    intro a b ha
    constructor
    · intro h
      rcases zR_F.mp h with h | ⟨h1, c, h2, h3, h4⟩
      · exact Or.inl h
      · rcases (ih ha).mp h3 with h5 | ⟨e, e1, e2, e3, e4⟩
        · exact Or.inl (zR_F.mpr (Or.inr ⟨h1, c, h2, h5, h4⟩))
        · exact Or.inr ⟨e, e1, e2, e3, zR_F.mpr (Or.inr ⟨h1, c, h2, e4, h4⟩)⟩
    · rintro (h | ⟨c, h1, h2, h3, h4⟩)
      · exact zR_F.mpr (Or.inl h)
      · rcases zR_F.mp h4 with h5 | ⟨h5, e, e1, e2, e3⟩
        · exact zR_F.mpr (Or.inl ((ih ha).mpr (Or.inr ⟨c, h1, h2, h3, h5⟩)))
        · exact zR_F.mpr (Or.inr ⟨h5, e, e1, (ih ha).mpr (Or.inr ⟨c, h1, h2, h3, e2⟩), e3⟩)
theorem zR_in {a : Nat} (ha : W.testBit a = true) : ∀ k b, (zit S W (2 ^ a) k).testBit b = true → W.testBit b = true
  | 0, b, h => by rw [zpow_bit.mp h]; exact ha
  | k + 1, b, h => by
    rcases zR_F.mp h with h | ⟨h, -⟩
    · exact zR_in ha k b h
    · exact h
theorem zR_s1 (hS : zwf S) (hW : W < 2 ^ S 0) : ∀ k a b, W.testBit a = true → W.testBit b = true → (zit S W (2 ^ a) k).testBit b = true → (zit S W (2 ^ b) k).testBit a = true
  | 0, a, b, _, _, h => by
    have := zpow_bit.mp h
    exact zpow_bit.mpr this.symm
  | k + 1, a, b, ha, hb, h => by
    have an := zlt_of_bit hW ha
    have bn := zlt_of_bit hW hb
    rcases zR_F.mp h with h | ⟨h1, c, h2, h3, h4⟩
    · exact zR_F.mpr (Or.inl (zR_s1 hS hW k a b ha hb h))
    · have hc := zR_in ha k c h3
      have h5 := zR_s1 hS hW k a c ha hc h3
      have h6 := znx_sym _ (hS.sh (by omega)) c h2 b bn
      exact (zR_B hW bn).mpr (Or.inr ⟨c, h2, hc, by rw [← h6]; exact h4, h5⟩)
theorem zR_sym (hS : zwf S) (hW : W < 2 ^ S 0) (k a b : Nat) (ha : W.testBit a = true) (hb : W.testBit b = true) : (zit S W (2 ^ a) k).testBit b = (zit S W (2 ^ b) k).testBit a := by
  cases h : (zit S W (2 ^ a) k).testBit b
  · cases h2 : (zit S W (2 ^ b) k).testBit a
    · rfl
    · rw [zR_s1 hS hW k b a hb ha h2] at h; cases h
  · exact (zR_s1 hS hW k a b ha hb h).symm
/-- steps from a to b -/
def zstp (S : Nat → Nat) (a b : Nat) : Nat := zfst (fun k => (zit S (zon S) (2 ^ a) k).testBit b) 10 0
theorem zstp_sym (hS : zwf S) {a b : Nat} (ha : (zon S).testBit a = true) (hb : (zon S).testBit b = true) : zstp S a b = zstp S b a := zfst_cg (fun k => zR_sym hS zon_lt k a b ha hb) 10 0
theorem zstp_le (a b : Nat) : zstp S a b ≤ 99 := by
  unfold zstp
  rcases zfst_sp (p := fun k => (zit S (zon S) (2 ^ a) k).testBit b) 10 0 with h | h <;> omega
theorem zstp_next (hS : zwf S) {a b m : Nat} (ha : (zon S).testBit a = true) (hm : m < 98) (h : zstp S a b = m + 1) : ∃ c, c < S 0 ∧ (znx (S 1) (S 0) a &&& zon S).testBit c = true ∧ zstp S c b = m := by
  have an := zlt_of_bit zon_lt ha
  unfold zstp at h
  rcases zfst_sp (p := fun k => (zit S (zon S) (2 ^ a) k).testBit b) 10 0 with h1 | ⟨h1, h2, h3, h4⟩
  · omega
  · rw [h] at h2 h3 h4
    have h5 := h4 m (by omega) (by omega)
    rcases (zR_B zon_lt an).mp h3 with h6 | ⟨c, c1, c2, c3, c4⟩
    · rw [h6] at h5; cases h5
    · refine ⟨c, c1, by rw [Nat.testBit_and, c2, c3]; rfl, zfst_eq (m := m) c4 (fun j hj => ?_) 10 0 (by omega) (by omega)⟩
      cases q : (zit S (zon S) (2 ^ c) j).testBit b
      · rfl
      · have := h4 (j + 1) (by omega) (by omega)
        rw [(zR_B zon_lt an).mpr (Or.inr ⟨c, c1, c2, c3, q⟩)] at this
        cases this
end ZX36
section ZX37
variable {d : Nat} {M : ZM} {S : Nat → Nat} {b : Nat}
theorem s_stepsC (hd : 2 ≤ d) (hb : zsh b) (hW : zwf S) (hS : zSheet S b M) {x y : Nat} (hx : x < 10) (hy : y < 10) : (zenv zbt d).1 75 [.ref b, .int (nI x), .int (nI y)] M = some (if zstp S y x = 99 then -1000000 else nI (zstp S y x), M) := by
  obtain ⟨d, rfl⟩ : ∃ e, d = e + 1 := ⟨d - 1, by omega⟩
  have hon := hW.on
  have key : ∀ k, k ≤ 10 → zstp S y x = zfst (fun k => (zit S (zon S) (2 ^ y) k).testBit x) (10 - k) k → zL (zenv zbt d) tb_X5_stepsBetween cu_X5_stepsBetween 7 [some (.ref b), some (.int (nI x)), none, some (.int (nI (zit S (zon S) (2 ^ y) k))), some (.int (nI k))] [] M (some (.int (if zstp S y x = 99 then -1000000 else nI (zstp S y x))), M) := by
    apply zup
    · intro h
      rw [show 10 - 10 = 0 by rfl, zfst] at h
      apply zL_of; rw [e_X5_stepsBetween_7 _ _ _ hb, if_pos (by decide), h, if_pos rfl]; rfl
    · intro k hk ih h
      have hlt : zit S (zon S) (2 ^ y) k < 2 ^ 10 := zit_lt hon (zpow_lt hy) k
      rw [show 10 - k = (10 - (k + 1)) + 1 by omega, zfst] at h
      apply zL_of; rw [e_X5_stepsBetween_7 _ _ _ hb, if_neg (show ¬ ((10 : Int32) ≤ nI k) from nI_ge hk (by decide))]
      cases ht : (zit S (zon S) (2 ^ y) k).testBit x
      · rw [if_pos ((zbit0 (by omega) (by omega)).mpr ht), s_nextTo (by omega) hb hW hS hlt, Option.bind_some]
        dsimp only
        rw [hS.2.2.2.2.2.1, zand, zor, nI_1]
        rw [ht, if_neg (by decide)] at h
        exact zPo_go (ih h)
      · rw [ht, if_pos rfl] at h
        rw [if_neg (fun q => by rw [zbit0 (by omega) (by omega), ht] at q; cases q), h, if_neg (by omega)]; rfl
  apply c_X5_stepsBetween
  apply zL_of; rw [e_X5_stepsBetween_0 _ _ _ hb, show zshl 1 (nI y) = nI (2 ^ y) from zshl1 (by omega)]
  exact zPo_go (key 0 (by omega) rfl)
theorem s_stepsM (hd : 3 ≤ d) (hW : zwf S) (hM : zMod S M) {x y : Nat} (hx : x < 10) (hy : y < 10) : (zenv zbt d).1 209 [.ref 66, .int (nI x), .int (nI y)] M = some (nI (zstp S x y), M) := by
  obtain ⟨d, rfl⟩ : ∃ e, d = e + 1 := ⟨d - 1, by omega⟩
  have hon := hW.on
  have hn := hW.n
  have key : ∀ k, k ≤ 10 → zstp S x y = zfst (fun k => (zit S (zon S) (2 ^ x) k).testBit y) (10 - k) k → zL (zenv zbt d) tb_X8_stepsOf cu_X8_stepsOf 7 [some (.ref 66), none, some (.int (nI y)), some (.int (nI (zit S (zon S) (2 ^ x) k))), some (.int (nI k)), none, none] [] M (some (.int (nI (zstp S x y))), M) := by
    apply zup
    · intro h
      rw [show 10 - 10 = 0 by rfl, zfst] at h
      apply zL_of; rw [e_X8_stepsOf_7, if_pos (by decide), h]; rfl
    · intro k hk ih h
      have hlt : zit S (zon S) (2 ^ x) k < 2 ^ 10 := zit_lt hon (zpow_lt hx) k
      rw [show 10 - k = (10 - (k + 1)) + 1 by omega, zfst] at h
      apply zL_of; rw [e_X8_stepsOf_7, if_neg (show ¬ ((10 : Int32) ≤ nI k) from nI_ge hk (by decide)), s_has (by omega) (by omega) (by omega), Option.bind_some]
      dsimp only
      cases ht : (zit S (zon S) (2 ^ x) k).testBit y
      · rw [ht, if_neg (by decide)] at h
        have ih2 := ih h
        rw [zit] at ih2
        rw [zbi_f (by decide), if_pos rfl]
        apply zPo_go
        generalize zit S (zon S) (2 ^ x) k = p at hlt ih2 ⊢
        have inner : ∀ c, c ≤ S 0 → zL (zenv zbt d) tb_X8_stepsOf cu_X8_stepsOf 31 [some (.ref 66), none, some (.int (nI y)), some (.int (nI p)), some (.int (nI k)), some (.int (nI (p ||| zors (fun c => if p.testBit c then znx (S 1) (S 0) c &&& zon S else 0) c))), some (.int (nI c))] [] M (some (.int (nI (zstp S x y))), M) := by
          apply zup
          · apply zL_of; rw [e_X8_stepsOf_31, hM.1 0 (by decide), if_pos (nI_le (Nat.le_refl _) (by omega)), zors_and (f := fun c => znx (S 1) (S 0) c) (t := fun c => p.testBit c), nI_1]
            exact zPo_go ih2
          · intro c hc ihc
            rw [zors, ← Nat.or_assoc] at ihc
            apply zL_of; rw [e_X8_stepsOf_31, hM.1 0 (by decide), if_neg (nI_ge hc (by omega)), s_has (by omega) (by omega) (by omega), Option.bind_some]
            dsimp only
            cases hp : p.testBit c
            · rw [hp, if_neg (by decide)] at ihc
              rw [zbi_f (by decide), if_pos rfl, show (0 : Int32) = nI 0 from rfl, zor, nI_1]
              exact zPo_go ihc
            · rw [hp, if_pos rfl] at ihc
              rw [zbi_t rfl, if_neg zn10, zck_t (zinN (by omega) (by decide)), zcN (show c < 2 ^ 31 by omega), hM.2 c hc, s_on (by omega) hW hM, Option.bind_some]
              dsimp only
              rw [zand, zor, nI_1]
              exact zPo_go ihc
        have := inner 0 (by omega)
        rw [zors, Nat.or_zero] at this
        exact this
      · rw [ht, if_pos rfl] at h
        rw [zbi_t rfl, if_neg zn10, h]; rfl
  apply c_X8_stepsOf
  apply zL_of; rw [e_X8_stepsOf_0, show zshl 1 (nI x) = nI (2 ^ x) from zshl1 (by omega)]
  exact zPo_go (key 0 (by omega) rfl)
theorem zand_t {x y : Int32} {n : Nat} : (zin x n && (zin y n && !(decide (x = y)))) = true ↔ zin x n = true ∧ zin y n = true ∧ x ≠ y := by
  simp [Bool.and_eq_true]
theorem s_twoC (hd : 2 ≤ d) (hI : zInv S M) (x y : Int32) : (zenv zbt d).1 124 [.ref 0, .int x, .int y] M = some (zbi (zin x (S 0) = true ∧ zin y (S 0) = true ∧ x ≠ y), M) := by
  obtain ⟨d, rfl⟩ : ∃ e, d = e + 1 := ⟨d - 1, by omega⟩
  apply c_X7_areTwoCells
  apply zL_of; rw [e_X7_areTwoCells_0, s_isCellC (by omega) hI, Option.bind_some]
  dsimp only
  by_cases h1 : zin x (S 0) = true
  · rw [zbi_t h1, if_neg zn10, s_isCellC (by omega) hI, Option.bind_some]
    dsimp only
    by_cases h2 : zin y (S 0) = true
    · rw [zbi_t h2, if_neg zn10]
      by_cases h3 : x = y
      · rw [if_pos h3, zbi_f (fun q => q.2.2 h3)]; rfl
      · rw [if_neg h3, zbi_t ⟨h1, h2, h3⟩]; rfl
    · rw [zbi_f h2, if_pos rfl, zbi_f (fun q => h2 q.2.1)]; rfl
  · rw [zbi_f h1, if_pos rfl, zbi_f (fun q => h1 q.1)]; rfl
theorem a_way (hI : zInv S M) (x y z : Int32) : zAl 106 210 [.int x, .int y, .int z] M := by
  intro d hd
  obtain ⟨d, rfl⟩ : ∃ e, d = e + 1 := ⟨d - 1, by omega⟩
  have hn := hI.wf.n
  have hon := hI.wf.on
  by_cases h2c : ¬ (zin x (S 0) = true ∧ zin y (S 0) = true ∧ x ≠ y)
  · refine ⟨-1000001, M, M, S, ?_, ?_, hI⟩
    · apply c_X7_way
      apply zL_of; rw [e_X7_way_0, s_twoC (by omega) hI, Option.bind_some]
      dsimp only
      rw [zbi_f h2c, if_pos rfl]; rfl
    · apply c_X8_way
      apply zL_of; rw [e_X8_way_0, s_isCellM (by omega) hI, Option.bind_some]
      dsimp only
      by_cases h1 : zin x (S 0) = true
      · rw [zbi_t h1, if_neg zn10, s_isCellM (by omega) hI, Option.bind_some]
        dsimp only
        by_cases h2 : zin y (S 0) = true
        · rw [zbi_t h2, if_neg zn10, if_pos (Decidable.of_not_not (fun q => h2c ⟨h1, h2, q⟩))]; rfl
        · rw [zbi_f h2, if_pos rfl]; rfl
      · rw [zbi_f h1, if_pos rfl]; rfl
  have h2c := Decidable.of_not_not h2c
  obtain ⟨hx, hy, hxy⟩ := h2c
  cases hz : zin z 2
  · refine ⟨-1000001, M, M, S, ?_, ?_, hI⟩
    · apply c_X7_way
      apply zL_of; rw [e_X7_way_0, s_twoC (by omega) hI, Option.bind_some]
      dsimp only
      rw [zbi_t ⟨hx, hy, hxy⟩, if_neg zn10, s_isEitherC (by omega), Option.bind_some]
      dsimp only
      rw [hz, zbi_f (by decide), if_pos rfl]; rfl
    · apply c_X8_way
      apply zL_of; rw [e_X8_way_0, s_isCellM (by omega) hI, Option.bind_some]
      dsimp only
      rw [zbi_t hx, if_neg zn10, s_isCellM (by omega) hI, Option.bind_some]
      dsimp only
      rw [zbi_t hy, if_neg zn10, if_neg hxy, s_in (by omega), Option.bind_some, zbi_eq zgm2]
      dsimp only
      rw [hz, zbi_f (by decide), if_pos rfl]; rfl
  obtain ⟨a, ha, rfl⟩ := (zin_iff (by omega)).mp hx
  obtain ⟨e, he, rfl⟩ := (zin_iff (by omega)).mp hy
  have hae : a ≠ e := fun q => hxy (by rw [q])
  cases ta : (zon S).testBit a
  · refine ⟨-1000002, M, M, S, ?_, ?_, hI⟩
    · apply c_X7_way
      apply zL_of; rw [e_X7_way_0, s_twoC (by omega) hI, Option.bind_some]
      dsimp only
      rw [zbi_t ⟨hx, hy, hxy⟩, if_neg zn10, s_isEitherC (by omega), Option.bind_some]
      dsimp only
      rw [zbi_t hz, if_neg zn10, s_isOn (by omega) (Or.inl rfl) hI.wf hI.sh (by omega), Option.bind_some]
      dsimp only
      rw [ta, zbi_f (by decide), if_pos rfl]; rfl
    · apply c_X8_way
      apply zL_of; rw [e_X8_way_0, s_isCellM (by omega) hI, Option.bind_some]
      dsimp only
      rw [zbi_t hx, if_neg zn10, s_isCellM (by omega) hI, Option.bind_some]
      dsimp only
      rw [zbi_t hy, if_neg zn10, if_neg hxy, s_in (by omega), Option.bind_some, zbi_eq zgm2]
      dsimp only
      rw [zbi_t hz, if_neg zn10, s_on (by omega) hI.wf hI.md, Option.bind_some]
      dsimp only
      rw [s_has (by omega) (by omega) (by omega), Option.bind_some]
      dsimp only
      rw [ta, zbi_f (by decide), if_pos rfl]; rfl
  cases te : (zon S).testBit e
  · refine ⟨-1000002, M, M, S, ?_, ?_, hI⟩
    · apply c_X7_way
      apply zL_of; rw [e_X7_way_0, s_twoC (by omega) hI, Option.bind_some]
      dsimp only
      rw [zbi_t ⟨hx, hy, hxy⟩, if_neg zn10, s_isEitherC (by omega), Option.bind_some]
      dsimp only
      rw [zbi_t hz, if_neg zn10, s_isOn (by omega) (Or.inl rfl) hI.wf hI.sh (by omega), Option.bind_some]
      dsimp only
      rw [zbi_t ta, if_neg zn10, s_isOn (by omega) (Or.inl rfl) hI.wf hI.sh (by omega), Option.bind_some]
      dsimp only
      rw [te, zbi_f (by decide), if_pos rfl]; rfl
    · apply c_X8_way
      apply zL_of; rw [e_X8_way_0, s_isCellM (by omega) hI, Option.bind_some]
      dsimp only
      rw [zbi_t hx, if_neg zn10, s_isCellM (by omega) hI, Option.bind_some]
      dsimp only
      rw [zbi_t hy, if_neg zn10, if_neg hxy, s_in (by omega), Option.bind_some, zbi_eq zgm2]
      dsimp only
      rw [zbi_t hz, if_neg zn10, s_on (by omega) hI.wf hI.md, Option.bind_some]
      dsimp only
      rw [s_has (by omega) (by omega) (by omega), Option.bind_some]
      dsimp only
      rw [zbi_t ta, if_neg zn10, s_on (by omega) hI.wf hI.md, Option.bind_some]
      dsimp only
      rw [s_has (by omega) (by omega) (by omega), Option.bind_some]
      dsimp only
      rw [te, zbi_f (by decide), if_pos rfl]; rfl
  have hsy : zstp S e a = zstp S a e := zstp_sym hI.wf te ta
  have hle := zstp_le (S := S) a e
  have c0 : ∀ r, zPo (zenv zbt d) tb_X7_way cu_X7_way (if z = 0 then (((zenv zbt d).1 75 [.ref 20, .int (nI a), .int (nI e)] M).bind fun q6 => some (.inl (some (.int q6.1), q6.2))) else (((zenv zbt d).1 76 [.ref 20, .int (nI a), .int (nI e)] M).bind fun q5 => some (.inl (some (.int q5.1), q5.2)))) (some (.int r), M) → (zenv zbt (d + 1)).1 106 [.ref 0, .int (nI a), .int (nI e), .int z] M = some (r, M) := by
    intro r hr
    apply c_X7_way
    apply zL_of; rw [e_X7_way_0, s_twoC (by omega) hI, Option.bind_some]
    dsimp only
    rw [zbi_t ⟨hx, hy, hxy⟩, if_neg zn10, s_isEitherC (by omega), Option.bind_some]
    dsimp only
    rw [zbi_t hz, if_neg zn10, s_isOn (by omega) (Or.inl rfl) hI.wf hI.sh (by omega), Option.bind_some]
    dsimp only
    rw [zbi_t ta, if_neg zn10, s_isOn (by omega) (Or.inl rfl) hI.wf hI.sh (by omega), Option.bind_some]
    dsimp only
    rw [zbi_t te, if_neg zn10]
    exact hr
  have m0 : ∀ r, zPo (zenv zbt d) tb_X8_way cu_X8_way (if nI (zstp S a e) = 99 then some (.inl (some (.int (-1000000)), M)) else (if z = 0 then some (.inl (some (.int (nI (zstp S a e))), M)) else (some (.inr (95, [some (.ref 66), some (.int (nI a)), some (.int (nI e)), none, some (.int (nI (zstp S a e))), some (.int 0)], [], M))))) (some (.int r), M) → (zenv zbt (d + 1)).1 210 [.ref 66, .int (nI a), .int (nI e), .int z] M = some (r, M) := by
    intro r hr
    apply c_X8_way
    apply zL_of; rw [e_X8_way_0, s_isCellM (by omega) hI, Option.bind_some]
    dsimp only
    rw [zbi_t hx, if_neg zn10, s_isCellM (by omega) hI, Option.bind_some]
    dsimp only
    rw [zbi_t hy, if_neg zn10, if_neg hxy, s_in (by omega), Option.bind_some, zbi_eq zgm2]
    dsimp only
    rw [zbi_t hz, if_neg zn10, s_on (by omega) hI.wf hI.md, Option.bind_some]
    dsimp only
    rw [s_has (by omega) (by omega) (by omega), Option.bind_some]
    dsimp only
    rw [zbi_t ta, if_neg zn10, s_on (by omega) hI.wf hI.md, Option.bind_some]
    dsimp only
    rw [s_has (by omega) (by omega) (by omega), Option.bind_some]
    dsimp only
    rw [zbi_t te, if_neg zn10, s_stepsM (by omega) hI.wf hI.md (by omega) (by omega), Option.bind_some]
    dsimp only
    by_cases h99 : nI (zstp S a e) = 99
    · rw [if_pos h99] at hr
      rw [if_pos h99, if_pos h99]; exact hr
    · rw [if_neg h99] at hr
      rw [if_neg h99, if_neg h99]; exact hr
  have hst := s_stepsC (d := d) (by omega) (Or.inl rfl) hI.wf hI.sh (show a < 10 by omega) (show e < 10 by omega)
  rw [hsy] at hst
  have e99 : nI (zstp S a e) = (99 : Int32) ↔ zstp S a e = 99 := nI_eq (b := 99) (by omega) (by decide)
  by_cases h99 : zstp S a e = 99
  · refine ⟨-1000000, M, M, S, c0 _ ?_, m0 _ ?_, hI⟩
    · by_cases z0 : z = 0
      · rw [if_pos z0, hst, Option.bind_some, if_pos h99]; rfl
      · obtain ⟨d, rfl⟩ : ∃ e, d = e + 1 := ⟨d - 1, by omega⟩
        have hst2 := s_stepsC (d := d) (by omega) (Or.inl rfl) hI.wf hI.sh (show a < 10 by omega) (show e < 10 by omega)
        rw [hsy] at hst2
        have : (zenv zbt (d + 1)).1 76 [.ref 20, .int (nI a), .int (nI e)] M = some (-1000000, M) := by
          apply c_X5_firstStep
          apply zL_of; rw [e_X5_firstStep_0 _ _ _ (Or.inl rfl), hst2, Option.bind_some, if_pos h99]
          dsimp only
          apply zPo_go
          apply zL_of; rw [e_X5_firstStep_10 _ _ _ (Or.inl rfl), if_pos (by decide)]; rfl
        rw [if_neg z0, this, Option.bind_some]; rfl
    · rw [if_pos (e99.mpr h99)]; rfl
  · have h0 : zstp S a e ≠ 0 := by
      intro q
      unfold zstp at q
      rcases zfst_sp (p := fun k => (zit S (zon S) (2 ^ a) k).testBit e) 10 0 with r | ⟨r1, r2, r3, r4⟩
      · omega
      · rw [q] at r3
        have := zpow_bit.mp (show (2 ^ a).testBit e = true from r3)
        omega
    by_cases z0 : z = 0
    · refine ⟨nI (zstp S a e), M, M, S, c0 _ ?_, m0 _ ?_, hI⟩
      · rw [if_pos z0, hst, Option.bind_some, if_neg h99]; rfl
      · rw [if_neg (fun q => h99 (e99.mp q)), if_pos z0]; rfl
    · obtain ⟨m, hm⟩ : ∃ m, zstp S a e = m + 1 := ⟨zstp S a e - 1, by omega⟩
      obtain ⟨c, c1, c2, c3⟩ := zstp_next hI.wf ta (by omega) hm
      have hnx := hI.wf.nx' ha
      have hna : znx (S 1) (S 0) a &&& zon S < 2 ^ 10 := Nat.and_lt_two_pow _ (by omega)
      obtain ⟨t, ht⟩ : ∃ t, t = zfst (fun c => (znx (S 1) (S 0) a &&& zon S).testBit c && decide (zstp S c e = m)) (S 0) 0 := ⟨_, rfl⟩
      obtain ⟨t1, t2, t3⟩ : t < S 0 ∧ ((znx (S 1) (S 0) a &&& zon S).testBit t && decide (zstp S t e = m)) = true ∧ ∀ j, j < t → ((znx (S 1) (S 0) a &&& zon S).testBit j && decide (zstp S j e = m)) = false := by
        rcases zfst_sp (p := fun c => (znx (S 1) (S 0) a &&& zon S).testBit c && decide (zstp S c e = m)) (S 0) 0 with r | ⟨r1, r2, r3, r4⟩
        · exfalso
          have ex : ∀ n k, k ≤ c → c < k + n → k + n ≤ 10 → zfst (fun c => (znx (S 1) (S 0) a &&& zon S).testBit c && decide (zstp S c e = m)) n k ≠ 99 := by
            intro n
            induction n with
            | zero => intro k _ _; omega
            | succ n ih =>
              intro k k1 k2 k3
              rw [zfst]
              cases q : (znx (S 1) (S 0) a &&& zon S).testBit k && decide (zstp S k e = m)
              · rw [if_neg (by decide)]
                have : k ≠ c := fun z => by rw [z, c2, decide_eq_true c3] at q; cases q
                exact ih (k + 1) (by omega) (by omega) (by omega)
              · rw [if_pos rfl]; omega
          exact ex (S 0) 0 (by omega) (by omega) (by omega) r
        · rw [← ht] at r2 r3 r4
          exact ⟨by omega, r3, fun j hj => r4 j (by omega) hj⟩
      have hm10 : m < 98 := by omega
      refine ⟨nI t, M, M, S, c0 _ ?_, m0 _ ?_, hI⟩
      · obtain ⟨d, rfl⟩ : ∃ e, d = e + 1 := ⟨d - 1, by omega⟩
        have hst2 := s_stepsC (d := d) (by omega) (Or.inl rfl) hI.wf hI.sh (show a < 10 by omega) (show e < 10 by omega)
        rw [hsy, hm, if_neg (by omega)] at hst2
        have key : ∀ i, i ≤ t → zL (zenv zbt d) tb_X5_firstStep cu_X5_firstStep 10 [some (.ref 20), some (.int (nI a)), some (.int (nI e)), some (.int (nI (m + 1))), some (.int (nI i)), none] [] M (some (.int (nI t)), M) := by
          have stp : ∀ i, i < S 0 → ∀ R, (((znx (S 1) (S 0) a &&& zon S).testBit i && decide (zstp S i e = m)) = true → zPo (zenv zbt d) tb_X5_firstStep cu_X5_firstStep (some (.inl (some (.int (nI i)), M))) R) → (((znx (S 1) (S 0) a &&& zon S).testBit i && decide (zstp S i e = m)) = false → zL (zenv zbt d) tb_X5_firstStep cu_X5_firstStep 10 [some (.ref 20), some (.int (nI a)), some (.int (nI e)), some (.int (nI (m + 1))), some (.int (nI (i + 1))), none] [] M R) → zL (zenv zbt d) tb_X5_firstStep cu_X5_firstStep 10 [some (.ref 20), some (.int (nI a)), some (.int (nI e)), some (.int (nI (m + 1))), some (.int (nI i)), none] [] M R := by
            intro i hi R g1 g2
            apply zL_of; rw [e_X5_firstStep_10 _ _ _ (Or.inl rfl), if_neg (nI_nle (by omega) (by omega)), hI.sh.2.1, if_neg (nI_ge hi (by omega)), zck_t (zinN (by omega) (by decide)), zcN (by omega), (hI.sh.2.2.2.2.2.2.2.2.1 a ha).1, hI.sh.2.2.2.2.2.1, zand, show zshl 1 (nI i) = nI (2 ^ i) from zshl1 (by omega), zand]
            cases q : (znx (S 1) (S 0) a &&& zon S).testBit i
            · rw [q] at g2
              rw [if_pos (by rw [zmask0.mpr q]; rfl), if_pos rfl, nI_1]
              exact zPo_go (g2 rfl)
            · have q0 : ¬ ((znx (S 1) (S 0) a &&& zon S) &&& 2 ^ i = 0) := fun z => by rw [zmask0.mp z] at q; cases q
              have qlt : (znx (S 1) (S 0) a &&& zon S) &&& 2 ^ i ≤ znx (S 1) (S 0) a &&& zon S := Nat.and_le_left
              have hio : (zon S).testBit i = true := by
                rw [Nat.testBit_and, Bool.and_eq_true] at q; exact q.2
              have hl2 := zstp_le (S := S) i e
              rw [if_neg (nI_ne0 (by omega) (by omega)), if_neg zn10, s_stepsC (by omega) (Or.inl rfl) hI.wf hI.sh (by omega) (by omega), Option.bind_some, zstp_sym hI.wf te hio]
              dsimp only
              rw [nI_pred]
              rw [q, Bool.true_and] at g1 g2
              by_cases hq : zstp S i e = m
              · rw [if_neg (show ¬ (zstp S i e = 99) by omega), if_pos (by rw [hq])]
                exact g1 (decide_eq_true hq)
              · rw [if_neg, nI_1]
                · exact zPo_go (g2 (decide_eq_false hq))
                · by_cases h9 : zstp S i e = 99
                  · rw [if_pos h9]
                    intro z
                    have := congrArg Int32.toInt z
                    rw [nI_toInt (by omega)] at this
                    have h10 : (-1000000 : Int32).toInt = -1000000 := by decide
                    omega
                  · rw [if_neg h9]
                    exact fun z => hq ((nI_eq (by omega) (by omega)).mp z)
          apply zup
          · exact stp t t1 _ (fun _ => rfl) (fun q => by rw [t2] at q; cases q)
          · intro i hi ih
            exact stp i (by omega) _ (fun q => by rw [t3 i hi] at q; cases q) (fun _ => ih)
        have : (zenv zbt (d + 1)).1 76 [.ref 20, .int (nI a), .int (nI e)] M = some (nI t, M) := by
          apply c_X5_firstStep
          apply zL_of; rw [e_X5_firstStep_0 _ _ _ (Or.inl rfl), hst2, Option.bind_some]
          exact zPo_go (key 0 (by omega))
        rw [if_neg z0, this, Option.bind_some]; rfl
      · rw [if_neg (fun q => h99 (e99.mp q)), if_neg z0]
        apply zPo_go
        have key : ∀ i, i ≤ t → zL (zenv zbt d) tb_X8_way cu_X8_way 95 [some (.ref 66), some (.int (nI a)), some (.int (nI e)), none, some (.int (nI (zstp S a e))), some (.int (nI i))] [] M (some (.int (nI t)), M) := by
          have stp : ∀ i, i < S 0 → ∀ R, (((znx (S 1) (S 0) a &&& zon S).testBit i && decide (zstp S i e = m)) = true → zPo (zenv zbt d) tb_X8_way cu_X8_way (some (.inl (some (.int (nI i)), M))) R) → (((znx (S 1) (S 0) a &&& zon S).testBit i && decide (zstp S i e = m)) = false → zL (zenv zbt d) tb_X8_way cu_X8_way 95 [some (.ref 66), some (.int (nI a)), some (.int (nI e)), none, some (.int (nI (zstp S a e))), some (.int (nI (i + 1)))] [] M R) → zL (zenv zbt d) tb_X8_way cu_X8_way 95 [some (.ref 66), some (.int (nI a)), some (.int (nI e)), none, some (.int (nI (zstp S a e))), some (.int (nI i))] [] M R := by
            intro i hi R g1 g2
            apply zL_of; rw [e_X8_way_95, zck_t (zinN (by omega) (by decide)), zcN (by omega), hI.md.2 a ha, s_on (by omega) hI.wf hI.md, Option.bind_some]
            dsimp only
            rw [zand, s_has (by omega) (by omega) (by omega), Option.bind_some]
            dsimp only
            cases q : (znx (S 1) (S 0) a &&& zon S).testBit i
            · rw [q] at g2
              rw [zbi_f (by decide), if_pos rfl, nI_1]
              exact zPo_go (g2 rfl)
            · have hl2 := zstp_le (S := S) i e
              rw [zbi_t rfl, if_neg zn10, s_stepsM (by omega) hI.wf hI.md (by omega) (by omega), Option.bind_some]
              dsimp only
              rw [q, Bool.true_and] at g1 g2
              have hm' : nI (zstp S a e) - 1 = nI m := by rw [hm, nI_pred]
              rw [hm']
              by_cases hq : zstp S i e = m
              · rw [if_pos (by rw [hq])]
                exact g1 (decide_eq_true hq)
              · rw [if_neg (fun z => hq ((nI_eq (by omega) (by omega)).mp z)), nI_1]
                exact zPo_go (g2 (decide_eq_false hq))
          apply zup
          · exact stp t t1 _ (fun _ => rfl) (fun q => by rw [t2] at q; cases q)
          · intro i hi ih
            exact stp i (by omega) _ (fun q => by rw [t3 i hi] at q; cases q) (fun _ => ih)
        exact key 0 (by omega)
end ZX37

/-! Whom to serve with what: the pieces, of all rows the first; the class -/
/-- a piece for c that leaves enough for the others o -/
def zpl (S : Nat → Nat) (l c o s : Nat) : Bool := decide (s &&& l = s) && ((zsu S s).testBit c && (zcn S (zdif l s)).testBit o)
def zls (S : Nat → Nat) (l c o : Nat) : Nat := zfst (zpl S l c o) 1024 0
/-- what is left, who is left, ahead of customer i -/
def zpas (S : Nat → Nat) (w : Nat) : Nat → Nat × Nat
  | 0 => (zon S, w)
  | i + 1 => if w.testBit i then (zdif (zpas S w i).1 (zls S (zpas S w i).1 i (zdif (zpas S w i).2 (2 ^ i))), zdif (zpas S w i).2 (2 ^ i)) else zpas S w i
def zpan (S : Nat → Nat) (w i : Nat) : Nat := if w.testBit i then zls S (zpas S w i).1 i (zdif (zpas S w i).2 (2 ^ i)) else 0
section ZX43
variable {d : Nat} {M : ZM} {S : Nat → Nat} {b : Nat}
theorem zls_ok {l c o : Nat} (hl : l < 1024) (h : ∃ p, zpl S l c o p = true) : zpl S l c o (zls S l c o) = true ∧ ∀ j, j < zls S l c o → zpl S l c o j = false := by
  obtain ⟨k, h1, h2⟩ := pk_least (fun p => zpl S l c o p = true) h
  have hle : k < 1024 := by
    unfold zpl at h1
    rw [Bool.and_eq_true, decide_eq_true_eq] at h1
    exact Nat.lt_of_le_of_lt (zpart_le h1.1) hl
  have e : zls S l c o = k := zfst_eq h1 (fun j hj => by
    cases q : zpl S l c o j
    · rfl
    · exact absurd q (h2 j hj)) 1024 0 (by omega) (by omega)
  rw [e]
  exact ⟨h1, fun j hj => by
    cases q : zpl S l c o j
    · rfl
    · exact absurd q (h2 j hj)⟩
theorem zpl_0 {l c o : Nat} : zpl S l c o 0 = false := by
  unfold zpl
  have : zsu S 0 = 0 := by
    unfold zsu
    have : zhang S 0 = false := by simp [zhang]
    rw [this, Bool.and_false, if_neg (by decide)]
  rw [this]
  simp
theorem zpas_ok (hW : zwf S) {w : Nat} (hw : w < 32) (hb : (zcn S (zon S)).testBit w = true) : ∀ i, zheld S (zpas S w i).1 = true ∧ (zpas S w i).2 < 32 ∧ (zcn S (zpas S w i).1).testBit (zpas S w i).2 = true ∧ (∀ j, i ≤ j → (zpas S w i).2.testBit j = w.testBit j) ∧ (w.testBit i = true → ∃ p, zpl S (zpas S w i).1 i (zdif (zpas S w i).2 (2 ^ i)) p = true) := by
  have hp10 := zpow10 hW.n
  have ex : ∀ l o i, zheld S l = true → o < 32 → (zcn S l).testBit o = true → o.testBit i = true → ∃ p, zpl S l i (zdif o (2 ^ i)) p = true := by
    intro l o i h1 h2 h3 h4
    have hl := zheld_lt h1
    obtain ⟨p, p1, p2, p3⟩ := zcn_ex hW l (by omega) o h2 h3 i h4
    exact ⟨p, by unfold zpl; rw [decide_eq_true p1, p2, p3]; rfl⟩
  intro i
  induction i with
  | zero =>
    have h1 : zheld S (zon S) = true := zheld_iff.mpr (fun i hi => hi)
    exact ⟨h1, hw, hb, fun j _ => rfl, fun h => ex _ _ _ h1 hw hb h⟩
  | succ i ih =>
    obtain ⟨i1, i2, i3, i4, i5⟩ := ih
    have main : zheld S (zpas S w (i + 1)).1 = true ∧ (zpas S w (i + 1)).2 < 32 ∧ (zcn S (zpas S w (i + 1)).1).testBit (zpas S w (i + 1)).2 = true ∧ (∀ j, i + 1 ≤ j → (zpas S w (i + 1)).2.testBit j = w.testBit j) := by
      rw [zpas]
      cases q : w.testBit i
      · rw [if_neg (by decide)]
        exact ⟨i1, i2, i3, fun j hj => i4 j (by omega)⟩
      · rw [if_pos rfl]
        have hl := zheld_lt i1
        have h5 := (zls_ok (by omega) (i5 q)).1
        unfold zpl at h5
        rw [Bool.and_eq_true, Bool.and_eq_true, decide_eq_true_eq] at h5
        refine ⟨zheld_part i1 (zdif_part _ _), Nat.lt_of_le_of_lt (zdif_le _ _) i2, h5.2.2, fun j hj => ?_⟩
        show (zdif (zpas S w i).2 (2 ^ i)).testBit j = _
        rw [zdif_bit, i4 j (by omega)]
        have : (2 ^ i).testBit j = false := by
          cases q2 : (2 ^ i).testBit j
          · rfl
          · have := z2b.mp q2
            omega
        rw [this]
        simp
    obtain ⟨m1, m2, m3, m4⟩ := main
    exact ⟨m1, m2, m3, m4, fun h => ex _ _ _ m1 m2 m3 (by rw [m4 _ (Nat.le_refl _)]; exact h)⟩
theorem s_firstPiece (hd : 2 ≤ d) (hW : zwf S) (hT : zTab S M (zon S + 1)) {l c o k : Nat} (hl : zheld S l = true) (hc : c < 5) (ho : o < 32) (h1 : zpl S l c o k = true) (h2 : ∀ j, j < k → zpl S l c o j = false) : (zenv zbt d).1 33 [.ref 53, .int (nI l), .int (nI c), .int (nI o)] M = some (nI k, M) := by
  obtain ⟨d, rfl⟩ : ∃ e, d = e + 1 := ⟨d - 1, by omega⟩
  have hp10 := zpow10 hW.n
  have hl2 := zheld_lt hl
  have hlo : l ≤ zon S := Nat.le_of_testBit (zheld_iff.mp hl)
  have hk0 : k ≠ 0 := fun e => by rw [e, zpl_0] at h1; cases h1
  have hkl : k &&& l = k := by
    unfold zpl at h1
    rw [Bool.and_eq_true, decide_eq_true_eq] at h1
    exact h1.1
  have hkle := zpart_le hkl
  have key : ∀ s, s ≤ k → 1 ≤ s → zL (zenv zbt d) tb_X2_firstPieceLeaving cu_X2_firstPieceLeaving 3 [some (.ref 53), some (.int (nI l)), some (.int (nI c)), some (.int (nI o)), some (.int (nI s)), none] [] M (some (.int (nI k)), M) := by
    have pass : ∀ s, s ≤ k → 1 ≤ s → ∀ (r : ZR), (zpl S l c o s = true → (some (.int (nI s)), M) = r) → (zpl S l c o s = false → zL (zenv zbt d) tb_X2_firstPieceLeaving cu_X2_firstPieceLeaving 3 [some (.ref 53), some (.int (nI l)), some (.int (nI c)), some (.int (nI o)), some (.int (nI (s + 1))), none] [] M r) → zL (zenv zbt d) tb_X2_firstPieceLeaving cu_X2_firstPieceLeaving 3 [some (.ref 53), some (.int (nI l)), some (.int (nI c)), some (.int (nI o)), some (.int (nI s)), none] [] M r := by
      intro s hs h1s r hy hn
      have hsu := zsu_lt hW s
      apply zL_of; rw [e_X2_firstPieceLeaving_3, if_neg (nI_nlt (by omega) (by omega)), zandn (by omega), nI_1]
      by_cases hp : s &&& l = s
      · have e0 : zdif s l = 0 := zdif_0.mpr (zpart.mp hp)
        rw [e0, if_pos (show nI 0 = (0 : Int32) from rfl), zck_t (zinN (by omega) (by decide)), zcN (by omega), hT.1 s (by omega)]
        cases hb : (zsu S s).testBit c
        · rw [if_pos ((zbit0 (by omega) (by omega)).mpr hb), if_pos rfl]
          exact zPo_go (hn (by unfold zpl; rw [hb]; simp))
        · have hdl : zdif l s ≤ l := zdif_le _ _
          have hdh : zheld S (zdif l s) = true := zheld_part hl (zdif_part _ _)
          rw [if_neg (fun q => by rw [zbit0 (by omega) (by omega), hb] at q; cases q), if_neg zn10, zxor, zxor_part hp, s_canServe (by omega) (by omega) (hT.2 _ (by omega) hdh) (zcn_lt _ (by omega)) ho, Option.bind_some]
          dsimp only
          cases hq : (zcn S (zdif l s)).testBit o
          · rw [zbi_f (by decide), if_pos rfl]
            exact zPo_go (hn (by unfold zpl; rw [hq]; simp))
          · rw [zbi_t rfl, if_neg zn10]
            exact hy (by unfold zpl; rw [decide_eq_true hp, hb, hq]; rfl)
      · have e0 : zdif s l ≠ 0 := fun q => hp (zpart.mpr (zdif_0.mp q))
        have e1 := zdif_le s l
        rw [if_neg (nI_ne0 (by omega) (by omega)), if_pos rfl]
        exact zPo_go (hn (by unfold zpl; rw [decide_eq_false hp]; rfl))
    apply zup
    · intro h
      exact pass k (Nat.le_refl _) h _ (fun _ => rfl) (fun q => by rw [h1] at q; cases q)
    · intro s hs ih h
      exact pass s (by omega) h _ (fun q => by rw [h2 s hs] at q; cases q) (fun _ => ih (by omega))
  apply c_X2_firstPieceLeaving
  apply zL_of; rw [e_X2_firstPieceLeaving_0]
  exact zPo_go (key 1 (by omega) (by omega))
theorem s_pieceAmong (hd : 3 ≤ d) (hb : zsh b) (hW : zwf S) (hS : zSheet S b M) (hT : zTab S M (zon S + 1)) {w k : Nat} (hw : w < 32) (hbw : (zcn S (zon S)).testBit w = true) (hk : k < 5) : (zenv zbt d).1 32 [.ref 53, .ref b, .int (nI w), .int (nI k)] M = some (nI (zpan S w k), M) := by
  obtain ⟨d, rfl⟩ : ∃ e, d = e + 1 := ⟨d - 1, by omega⟩
  have hp10 := zpow10 hW.n
  have key : ∀ i, i ≤ k + 1 → (i = k + 1 → w.testBit k = false) → zL (zenv zbt d) tb_X2_pieceAmongServed cu_X2_pieceAmongServed 12 [some (.ref 53), none, some (.int (nI w)), some (.int (nI k)), some (.int (nI (zpas S w i).1)), some (.int (nI (zpas S w i).2)), some (.int (nI i)), none] [] M (some (.int (nI (zpan S w k))), M) := by
    apply zup
    · intro h
      apply zL_of; rw [e_X2_pieceAmongServed_12, if_pos (nI_lt (by omega) (by omega))]
      unfold zpan
      rw [h rfl, if_neg (by decide)]; rfl
    · intro i hi ih h
      obtain ⟨i1, i2, i3, i4, i5⟩ := zpas_ok hW hw hbw i
      have hl := zheld_lt i1
      apply zL_of; rw [e_X2_pieceAmongServed_12, if_neg (nI_nlt (by omega) (by omega)), if_neg (show ¬ ((5 : Int32) ≤ nI i) from nI_ge (show i < 5 by omega) (by decide)), nI_1]
      cases q : w.testBit i
      · rw [if_pos ((zbit0 (by omega) (by omega)).mpr q)]
        have ih := ih (fun e => by rw [show k = i by omega]; exact q)
        rw [zpas, q, if_neg (by decide)] at ih
        exact zPo_go ih
      · have hi4 := i4 i (Nat.le_refl _)
        rw [q] at hi4
        obtain ⟨z1, z2⟩ := zls_ok (by omega) (i5 q)
        have hpt : zls S (zpas S w i).1 i (zdif (zpas S w i).2 (2 ^ i)) &&& (zpas S w i).1 = zls S (zpas S w i).1 i (zdif (zpas S w i).2 (2 ^ i)) := by
          have := z1
          unfold zpl at this
          rw [Bool.and_eq_true, decide_eq_true_eq] at this
          exact this.1
        rw [if_neg (fun q2 => by rw [zbit0 (by omega) (by omega), q] at q2; cases q2), show zshl 1 (nI i) = nI (2 ^ i) from zshl1 (by omega), zxor, zxor_bit hi4, s_firstPiece (by omega) hW hT i1 (by omega) (Nat.lt_of_le_of_lt (zdif_le _ _) i2) z1 z2, Option.bind_some]
        dsimp only
        by_cases e : i = k
        · subst e
          rw [if_pos rfl]
          unfold zpan
          rw [q, if_pos rfl]; rfl
        · rw [if_neg (fun q2 => e ((nI_eq (by omega) (by omega)).mp q2)), zxor, zxor_part hpt]
          have ih := ih (fun e2 => absurd (show i = k by omega) e)
          rw [zpas, q, if_pos rfl] at ih
          exact zPo_go ih
  apply c_X2_pieceAmongServed
  apply zL_of; rw [e_X2_pieceAmongServed_0 _ _ _ hb, hS.2.2.2.2.2.1]
  exact zPo_go (key 0 (by omega) (fun h => by omega))
end ZX43

/-! as, ask -/
def zab (k : Nat) : Nat := [0, 0, 1, 1, 0, 4].getD k 0
def zals (k a : Nat) : Bool := decide (k = a) || (decide (zab k = a) || decide (zab (zab k) = a))
theorem zab_eq : ∀ k, k < 6 → zABOVE.getD k 0 = nI (zab k) ∧ zab k < 6 := by decide
section ZX25
variable {d : Nat} {M : ZM} {S : Nat → Nat}
theorem s_above (hd : 1 ≤ d) {k : Nat} (hk : k < 6) : (zenv zbt d).1 3 [.int (nI k)] M = some (nI (zab k), M) := by
  obtain ⟨d, rfl⟩ : ∃ e, d = e + 1 := ⟨d - 1, by omega⟩
  apply c_X1_above
  apply zL_of; rw [e_X1_above_0, if_neg (nI_pos (by omega)), if_neg (show ¬ ((6 : Int32) ≤ nI k) from nI_ge hk (by decide)), zck_t (zinN hk (by decide)), zcN (by omega), (zab_eq k hk).1]; rfl
theorem s_isAlso (hd : 2 ≤ d) {k a : Nat} (hk : k < 6) (ha : a < 6) : (zenv zbt d).1 2 [.int (nI k), .int (nI a)] M = some (zbi (zals k a = true), M) := by
  obtain ⟨d, rfl⟩ : ∃ e, d = e + 1 := ⟨d - 1, by omega⟩
  have h1 := (zab_eq k hk).2
  have h2 := (zab_eq _ h1).2
  have ee : ∀ x y : Nat, x < 6 → y < 6 → (nI x = nI y ↔ x = y) := fun x y hx hy => nI_eq (by omega) (by omega)
  apply c_X1_isAlso
  apply zL_of; rw [e_X1_isAlso_0]; apply zPo_go
  apply zL_of; rw [e_X1_isAlso_4, if_neg (by decide)]
  by_cases q1 : k = a
  · rw [if_pos ((ee _ _ hk ha).mpr q1), zbi_t (by simp [zals, q1])]; rfl
  rw [if_neg (fun q => q1 ((ee _ _ hk ha).mp q)), s_above (by omega) hk, Option.bind_some]; apply zPo_go
  apply zL_of; rw [e_X1_isAlso_4, if_neg (by decide)]
  by_cases q2 : zab k = a
  · rw [if_pos ((ee _ _ h1 ha).mpr q2), zbi_t (by simp [zals, q2])]; rfl
  rw [if_neg (fun q => q2 ((ee _ _ h1 ha).mp q)), s_above (by omega) h1, Option.bind_some]; apply zPo_go
  apply zL_of; rw [e_X1_isAlso_4, if_neg (by decide)]
  by_cases q3 : zab (zab k) = a
  · rw [if_pos ((ee _ _ h2 ha).mpr q3), zbi_t (by simp [zals, q3])]; rfl
  rw [if_neg (fun q => q3 ((ee _ _ h2 ha).mp q)), s_above (by omega) h2, Option.bind_some]; apply zPo_go
  apply zL_of; rw [e_X1_isAlso_4, if_pos (by decide), zbi_f (by simp [zals, q1, q2, q3])]; rfl
theorem z6 {a : Nat} (h : a < 6) : a = 0 ∨ a = 1 ∨ a = 2 ∨ a = 3 ∨ a = 4 ∨ a = 5 := by omega
theorem a_as (hI : zInv S M) (x y : Int32) : zAl 115 223 [.int x, .int y] M := by
  intro d hd
  obtain ⟨d, rfl⟩ : ∃ e, d = e + 1 := ⟨d - 1, by omega⟩
  have hn := hI.wf.n
  have h6 : ((0 : Int32) ≤ y ∧ y ≤ 5) ↔ zin y 6 = true := zgm (n := 6) (by decide)
  cases hz : zin x (S 0)
  · refine ⟨-1000001, M, M, S, ?_, ?_, hI⟩
    · apply c_X7_as
      apply zL_of; rw [e_X7_as_0, s_isCellC (by omega) hI, Option.bind_some]
      dsimp only
      rw [hz, zbi_f (by decide), if_pos rfl]; rfl
    · apply c_X8_as
      apply zL_of; rw [e_X8_as_0, s_isCellM (by omega) hI, Option.bind_some]
      dsimp only
      rw [hz, zbi_f (by decide), if_pos rfl]; rfl
  cases hy : zin y 6
  · refine ⟨-1000001, M, M, S, ?_, ?_, hI⟩
    · apply c_X7_as
      apply zL_of; rw [e_X7_as_0, s_isCellC (by omega) hI, Option.bind_some]
      dsimp only
      rw [zbi_t hz, if_neg zn10]
      by_cases y0 : y < 0
      · rw [if_pos y0]; rfl
      · rw [if_neg y0, if_neg (show ¬ (y < (6 : Int32)) from Int32.not_lt.mpr ((zin_f (by decide) hy).resolve_left y0))]; rfl
    · apply c_X8_as
      apply zL_of; rw [e_X8_as_0, s_isCellM (by omega) hI, Option.bind_some]
      dsimp only
      rw [zbi_t hz, if_neg zn10, s_in (by omega), Option.bind_some, zbi_eq h6]
      dsimp only
      rw [hy, zbi_f (by decide), if_pos rfl]; rfl
  obtain ⟨j, hj, rfl⟩ := (zin_iff (by omega)).mp hz
  obtain ⟨a, ha, rfl⟩ := (zin_iff (by decide)).mp hy
  obtain ⟨k1, k2, -⟩ := hI.wf.2.2.2.1 j hj
  have hk := (hI.sh.2.2.2.2.2.2.2.2.1 j hj).2.1
  have e3 : (3 : Int32) + nI j = nI (3 + j) := nI_add 3 j
  have cl : ∀ r M1, (if zals (S (3 + j)) a then (nI j, zw M 0 9 0) else (-1000010 - 3, zw M 0 9 3)) = (r, M1) → (zenv zbt (d + 1)).1 115 [.ref 0, .int (nI j), .int (nI a)] M = some (r, M1) := by
    intro r M1 hr
    apply c_X7_as
    apply zL_of; rw [e_X7_as_0, s_isCellC (by omega) hI, Option.bind_some]
    dsimp only
    rw [zbi_t hz, if_neg zn10, if_neg (nI_pos (by omega)), if_pos (show nI a < (6 : Int32) from nI_lt ha (by decide)), zck_t (zinN (by omega) (by decide)), zcN (by omega), hk, s_isAlso (by omega) (by omega) ha, Option.bind_some]
    dsimp only
    cases hq : zals (S (3 + j)) a
    · rw [hq, if_neg (by decide)] at hr
      cases hr
      rw [zbi_f (by decide), if_pos rfl, s_found (by omega), Option.bind_some]; rfl
    · rw [hq, if_pos rfl] at hr
      cases hr
      rw [zbi_t rfl, if_neg zn10, s_fine (by omega), Option.bind_some]; rfl
  have md : ∀ v w : Int32, (if zals (S (3 + j)) a then (nI j, zw (zw M 0 9 v) 66 4 0) else (-1000010 - 3, zw (zw M 0 9 v) 66 4 3)) = (w, zw (zw M 0 9 v) 66 4 v) → (zenv zbt (d + 1)).1 223 [.ref 66, .int (nI j), .int (nI a)] (zw M 0 9 v) = some (w, zw (zw M 0 9 v) 66 4 v) := by
    intro v w hw
    have hI0 := hI.st v
    have e1 : ∀ k, k < 41 → (zw M 0 9 v).1 72 k = nI (S k) := fun k hk => by rw [zw_nc (by decide)]; exact hI.md.1 k hk
    have hc : (zenv zbt d).1 169 [.ref 66, .int (nI j)] (zw M 0 9 v) = some (zbi (zin (nI j) (S 0) = true), zw M 0 9 v) := by
      obtain ⟨d, rfl⟩ : ∃ e, d = e + 1 := ⟨d - 1, by omega⟩
      apply c_X8_isCell
      apply zL_of; rw [e_X8_isCell_0, e1 0 (by decide), s_in (by omega), Option.bind_some]
      dsimp only
      rw [zck_t zbi_01, zbi_eq (zgm (show S 0 < 2 ^ 30 by omega))]; rfl
    apply c_X8_as
    apply zL_of; rw [e_X8_as_0, hc, Option.bind_some]
    dsimp only
    rw [zbi_t hz, if_neg zn10, s_in (by omega), Option.bind_some, zbi_eq h6]
    dsimp only
    rw [zbi_t hy, if_neg zn10, e3, zck_t (zinN (by omega) (by decide)), zcN (by omega), e1 _ (by omega)]
    simp only [s_finds (d := d) (by omega), Option.bind_some]
    have hw2 : (some (Value.int w), zw (zw M 0 9 v) 66 4 v) = (some (Value.int (if zals (S (3 + j)) a then (nI j, zw (zw M 0 9 v) 66 4 0) else (-1000010 - 3, zw (zw M 0 9 v) 66 4 3)).1), (if zals (S (3 + j)) a then (nI j, zw (zw M 0 9 v) 66 4 0) else (-1000010 - 3, zw (zw M 0 9 v) 66 4 3)).2) := by rw [hw]
    rw [hw2]
    clear hw hw2
    revert k1 k2
    generalize S (3 + j) = k
    intro k1 k2
    have hk6 : k = 1 ∨ k = 2 ∨ k = 3 ∨ k = 4 ∨ k = 5 := by omega
    rcases hk6 with rfl | rfl | rfl | rfl | rfl <;> rcases z6 ha with rfl | rfl | rfl | rfl | rfl | rfl <;> rfl
  cases hq : zals (S (3 + j)) a
  · exact ⟨-1000010 - 3, zw M 0 9 3, zw (zw M 0 9 3) 66 4 3, S, cl _ _ (by rw [hq]; rfl), md 3 _ (by rw [hq]; rfl), hI.st 3⟩
  · exact ⟨nI j, zw M 0 9 0, zw (zw M 0 9 0) 66 4 0, S, cl _ _ (by rw [hq]; rfl), md 0 _ (by rw [hq]; rfl), hI.st 0⟩
end ZX25

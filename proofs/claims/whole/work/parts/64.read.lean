/-! The tape: tokens, as the class reads them -/
def zPE (E : ZE) (tb : List (Nat × ZP)) (cu : List (Nat × List Bool)) (o : Option ZO) (P : Int32 → ZM → Prop) : Prop := ∃ r M', zPo E tb cu o (some (.int r), M') ∧ P r M'
def zLE (E : ZE) (tb : List (Nat × ZP)) (cu : List (Nat × List Bool)) (pc : Nat) (lo : ZL) (st : List Value) (M : ZM) (P : Int32 → ZM → Prop) : Prop := ∃ r M', zL E tb cu pc lo st M (some (.int r), M') ∧ P r M'
theorem zLE_of {E : ZE} {tb : List (Nat × ZP)} {cu : List (Nat × List Bool)} {pc : Nat} {lo : ZL} {st : List Value} {M : ZM} {P : Int32 → ZM → Prop} (h : zPE E tb cu (zrun E tb cu 2000 [] pc lo st M) P) : zLE E tb cu pc lo st M P := by
  obtain ⟨r, M', h1, h2⟩ := h
  exact ⟨r, M', zL_of h1, h2⟩
theorem zPE_ret {E : ZE} {tb : List (Nat × ZP)} {cu : List (Nat × List Bool)} {r : Int32} {M' : ZM} {P : Int32 → ZM → Prop} (h : P r M') : zPE E tb cu (some (.inl (some (.int r), M'))) P := ⟨r, M', rfl, h⟩
theorem zPE_go {E : ZE} {tb : List (Nat × ZP)} {cu : List (Nat × List Bool)} {pc : Nat} {lo : ZL} {st : List Value} {M : ZM} {P : Int32 → ZM → Prop} (h : zLE E tb cu pc lo st M P) : zPE E tb cu (some (.inr (pc, lo, st, M))) P := by
  obtain ⟨r, M', h1, h2⟩ := h
  exact ⟨r, M', zPo_go h1, h2⟩
def zdg (x : Nat) : Bool := decide (48 ≤ x) && decide (x ≤ 57)
def zdnF (B : Nat → Nat) : Nat → Nat → Nat
  | 0, _ => 0
  | f + 1, q => if zdg (B q) then zdnF B f (q + 1) + 1 else 0
/-- how many figures there are from q on; the number that one or two make -/
def zdn (B : Nat → Nat) (q : Nat) : Nat := zdnF B 121 q
def zdv (B : Nat → Nat) (q : Nat) : Nat := if zdn B q = 1 then B q - 48 else 10 * (B q - 48) + (B (q + 1) - 48)
/-- bytes: behind the last 1000 -/
def zBy (B : Nat → Nat) (n : Nat) : Prop := n ≤ 120 ∧ (∀ i, i < n → B i ≤ 255) ∧ ∀ i, n ≤ i → B i = 1000
def zTp (B : Nat → Nat) (n : Nat) (M : ZM) : Prop := M.1 18 1 = nI n ∧ ∀ i, i < n → M.1 19 i = nI (B i)
def zlt (x : Nat) : Bool := (decide (97 ≤ x) && decide (x ≤ 122)) || (decide (x = 44) || decide (x = 59))
def zte (B : Nat → Nat) (n q : Nat) : Nat := if n ≤ q then q else if zdn B q = 0 then q + 1 else q + zdn B q
def ztk (B : Nat → Nat) (n q : Nat) : Int32 := if n ≤ q then -1 else if zdn B q = 0 then (if zlt (B q) then nI (B q) else -2) else if 2 < zdn B q then -2 else 0
/-- the class's reader stands at the token from q on -/
def zRS (B : Nat → Nat) (n : Nat) (M : ZM) (q : Nat) : Prop := zTp B n M ∧ q ≤ n ∧ M.1 18 3 = nI q ∧ M.1 18 2 = nI (zte B n q) ∧ M.1 18 4 = ztk B n q ∧ (zdn B q = 1 ∨ zdn B q = 2 → M.1 18 5 = nI (zdv B q))
def znv (B : Nat → Nat) (q : Nat) : Nat → Int32
  | 0 => 0
  | i + 1 => ((10 * znv B q i) + nI (B (q + i))) - 48
section ZX54
variable {d : Nat} {M : ZM} {B : Nat → Nat} {n : Nat}
theorem zdg_iff {x : Nat} : zdg x = true ↔ 48 ≤ x ∧ x ≤ 57 := by
  unfold zdg
  rw [Bool.and_eq_true, decide_eq_true_eq, decide_eq_true_eq]
theorem zdnF_sp (hB : ∀ i, n ≤ i → B i = 1000) : ∀ f q, n < q + f → (∀ i, i < zdnF B f q → zdg (B (q + i)) = true) ∧ zdg (B (q + zdnF B f q)) = false
  | 0, q, h => ⟨fun i hi => by simp [zdnF] at hi, by
    show zdg (B (q + 0)) = false
    rw [hB (q + 0) (by omega)]; rfl⟩
  | f + 1, q, h => by
    rw [zdnF]
    cases hd : zdg (B q)
    · rw [if_neg (by decide)]
      exact ⟨fun i hi => by omega, hd⟩
    · rw [if_pos rfl]
      obtain ⟨h1, h2⟩ := zdnF_sp hB f (q + 1) (by omega)
      refine ⟨fun i hi => ?_, ?_⟩
      · cases i with
        | zero => exact hd
        | succ i =>
          have := h1 i (by omega)
          rw [show q + (i + 1) = q + 1 + i by omega]
          exact this
      · rw [show q + (zdnF B f (q + 1) + 1) = q + 1 + zdnF B f (q + 1) by omega]
        exact h2
theorem zdn_sp (hB : zBy B n) (q : Nat) : (∀ i, i < zdn B q → zdg (B (q + i)) = true) ∧ zdg (B (q + zdn B q)) = false := zdnF_sp hB.2.2 121 q (by have := hB.1; omega)
theorem zdn_le (hB : zBy B n) {q : Nat} (hq : q ≤ n) : q + zdn B q ≤ n := by
  by_cases h0 : zdn B q = 0
  · omega
  · have h1 := (zdn_sp hB q).1 (zdn B q - 1) (by omega)
    refine Nat.le_of_not_lt fun h => ?_
    rw [hB.2.2 _ (show n ≤ q + (zdn B q - 1) by omega)] at h1
    cases h1
theorem zdn_0 (hB : zBy B n) {q : Nat} : zdn B q = 0 ↔ zdg (B q) = false := by
  obtain ⟨h1, h2⟩ := zdn_sp hB q
  constructor
  · intro h
    rw [h] at h2
    exact h2
  · intro h
    refine Nat.eq_zero_of_not_pos fun q2 => ?_
    have := h1 0 q2
    rw [Nat.add_zero, h] at this
    cases this
theorem s_isFig (hd : 1 ≤ d) {x : Nat} (hx : x < 2 ^ 31) : (zenv zbt d).1 49 [.int (nI x)] M = some (zbi (zdg x = true), M) := by
  obtain ⟨d, rfl⟩ : ∃ e, d = e + 1 := ⟨d - 1, by omega⟩
  apply c_X3_isFigureSign
  apply zL_of; rw [e_X3_isFigureSign_0]
  by_cases h1 : x < 48
  · rw [if_pos (show nI x < (48 : Int32) from nI_lt (b := 48) h1 (by decide)), zbi_f (fun q => by have := zdg_iff.mp q; omega)]; rfl
  rw [if_neg (show ¬ (nI x < (48 : Int32)) from nI_nlt (b := 48) (by omega) hx)]
  by_cases h2 : 57 < x
  · rw [if_pos (show (57 : Int32) < nI x from nI_lt (a := 57) h2 hx), zbi_f (fun q => by have := zdg_iff.mp q; omega)]; rfl
  · rw [if_neg (show ¬ ((57 : Int32) < nI x) from nI_nlt (a := 57) (by omega) (by decide)), zbi_t (zdg_iff.mpr ⟨by omega, by omega⟩)]; rfl
theorem znv_1 (hB : zBy B n) {q : Nat} (h : zdn B q = 1) : znv B q 1 = nI (zdv B q) := by
  have h1 := zdg_iff.mp ((zdn_sp hB q).1 0 (by omega))
  rw [Nat.add_zero] at h1
  unfold zdv
  rw [if_pos h]
  show ((10 * (0 : Int32)) + nI (B (q + 0))) - 48 = _
  rw [show (10 : Int32) * 0 = nI 0 from rfl, nI_add, Nat.zero_add, Nat.add_zero]
  exact pk_sub (b := 48) h1.1
theorem znv_2 (hB : zBy B n) {q : Nat} (h : zdn B q = 2) : znv B q 2 = nI (zdv B q) := by
  have h0 := zdg_iff.mp ((zdn_sp hB q).1 0 (by omega))
  have h1 := zdg_iff.mp ((zdn_sp hB q).1 1 (by omega))
  rw [Nat.add_zero] at h0
  have e1 : znv B q 1 = nI (B q - 48) := by
    show ((10 * (0 : Int32)) + nI (B (q + 0))) - 48 = _
    rw [show (10 : Int32) * 0 = nI 0 from rfl, nI_add, Nat.zero_add, Nat.add_zero]
    exact pk_sub (b := 48) h0.1
  unfold zdv
  rw [if_neg (by omega)]
  show ((10 * znv B q 1) + nI (B (q + 1))) - 48 = _
  rw [e1, show (10 : Int32) * nI (B q - 48) = nI (10 * (B q - 48)) from pk_mul 10 _, nI_add, show nI (10 * (B q - 48) + B (q + 1)) - 48 = nI (10 * (B q - 48) + B (q + 1) - 48) from pk_sub (b := 48) (by omega)]
  congr 1
  omega
theorem s_over (hd : 2 ≤ d) (hB : zBy B n) {q : Nat} (hq : q < n) (hT : zTp B n M) (h2 : M.1 18 2 = nI q) (h3 : M.1 18 3 = nI q) : ∃ M', (zenv zbt d).2.2 48 [.ref 18] M = some M' ∧ zFr [18] M M' ∧ M'.1 18 1 = M.1 18 1 ∧ M'.1 18 6 = M.1 18 6 ∧ M'.1 18 3 = nI q ∧ M'.1 18 2 = nI (q + zdn B q) ∧ M'.1 18 5 = znv B q (zdn B q) ∧ M'.1 18 4 = if 2 < zdn B q then -2 else 0 := by
  obtain ⟨d, rfl⟩ : ∃ e, d = e + 1 := ⟨d - 1, by omega⟩
  obtain ⟨b1, b2, b3⟩ := id hB
  obtain ⟨d1, d2⟩ := zdn_sp hB q
  have hle := zdn_le hB (show q ≤ n by omega)
  have key : ∀ i, i ≤ zdn B q → ∀ Mk, zFr [18] M Mk → Mk.1 18 1 = M.1 18 1 → Mk.1 18 6 = M.1 18 6 → Mk.1 18 3 = nI q → Mk.1 18 2 = nI (q + i) → Mk.1 18 5 = znv B q i → ∃ M', zL (zenv zbt d) tb_X3_stepOverNumber cu_X3_stepOverNumber 5 [some (.ref 18)] [] Mk (none, M') ∧ zFr [18] M M' ∧ M'.1 18 1 = M.1 18 1 ∧ M'.1 18 6 = M.1 18 6 ∧ M'.1 18 3 = nI q ∧ M'.1 18 2 = nI (q + zdn B q) ∧ M'.1 18 5 = znv B q (zdn B q) ∧ M'.1 18 4 = if 2 < zdn B q then -2 else 0 := by
    apply zup
    · intro Mk hf k1 k6 k3 k2 k5
      refine ⟨zw Mk 18 4 (if 2 < zdn B q then -2 else 0), ?_, hf.w (by decide), by rw [zw_nk (by decide)]; exact k1, by rw [zw_nk (by decide)]; exact k6, by rw [zw_nk (by decide)]; exact k3, by rw [zw_nk (by decide)]; exact k2, by rw [zw_nk (by decide)]; exact k5, zw_eq _ _ _ _⟩
      have fin : ∀ {o : Option ZO}, o = (if (2 : Int32) < nI (q + zdn B q) - nI q then some (.inl (none, zw Mk 18 4 (-2))) else some (.inl (none, zw Mk 18 4 0))) → zPo (zenv zbt d) tb_X3_stepOverNumber cu_X3_stepOverNumber o (none, zw Mk 18 4 (if 2 < zdn B q then -2 else 0)) := by
        intro o ho
        rw [ho, pk_sub (by omega), Nat.add_sub_cancel_left]
        by_cases g : 2 < zdn B q
        · rw [if_pos (show (2 : Int32) < nI (zdn B q) from nI_lt (a := 2) g (by omega)), if_pos g]; rfl
        · rw [if_neg (show ¬ ((2 : Int32) < nI (zdn B q)) from nI_nlt (a := 2) (by omega) (by decide)), if_neg g]; rfl
      apply zL_of; rw [e_X3_stepOverNumber_5, k1, hT.1, k2]
      by_cases g : n ≤ q + zdn B q
      · rw [if_pos (nI_le g (by omega)), k3]
        exact fin rfl
      · have hx : Mk.1 19 (q + zdn B q) = nI (B (q + zdn B q)) := by rw [(hf 19 (by decide)).1]; exact hT.2 _ (by omega)
        have hb := b2 (q + zdn B q) (by omega)
        rw [if_neg (nI_ge (by omega) (by omega)), zck_t (zinN (by omega) (by decide)), zcN (by omega), hx, s_isFig (by omega) (by omega), Option.bind_some]
        dsimp only
        rw [d2, zbi_f (by decide), if_pos rfl, k2, k3]
        exact fin rfl
    · intro i hi ih Mk hf k1 k6 k3 k2 k5
      have hx : Mk.1 19 (q + i) = nI (B (q + i)) := by rw [(hf 19 (by decide)).1]; exact hT.2 _ (by omega)
      have hb := b2 (q + i) (by omega)
      obtain ⟨M', g1, g2⟩ := ih (zw (zw Mk 18 5 (znv B q (i + 1))) 18 2 (nI (q + (i + 1)))) ((hf.w (by decide)).w (by decide)) (by rw [zw_nk (by decide), zw_nk (by decide)]; exact k1) (by rw [zw_nk (by decide), zw_nk (by decide)]; exact k6) (by rw [zw_nk (by decide), zw_nk (by decide)]; exact k3) (zw_eq _ _ _ _) (by rw [zw_nk (by decide), zw_eq])
      refine ⟨M', ?_, g2⟩
      apply zL_of; rw [e_X3_stepOverNumber_5, k1, hT.1, k2, if_neg (nI_ge (by omega) (by omega)), zck_t (zinN (by omega) (by decide)), zcN (by omega), hx, s_isFig (by omega) (by omega), Option.bind_some]
      dsimp only
      rw [d1 i hi, zbi_t rfl, if_neg zn10, k2, zck_t (zinN (by omega) (by decide)), zcN (by omega), hx, k5, nI_1]
      exact zPo_go g1
  obtain ⟨M', g1, g2, g3⟩ := key 0 (by omega) (zw M 18 5 0) (zFr.rf.w (by decide)) (by rw [zw_nk (by decide)]) (by rw [zw_nk (by decide)]) (by rw [zw_nk (by decide)]; exact h3) (by rw [zw_nk (by decide)]; exact h2) (zw_eq _ _ _ _)
  refine ⟨M', ?_, g2, g3⟩
  apply c_X3_stepOverNumber
  apply zL_of; rw [e_X3_stepOverNumber_0]
  exact zPo_go g1
theorem zlt_iff {x : Nat} : zlt x = true ↔ (97 ≤ x ∧ x ≤ 122) ∨ x = 44 ∨ x = 59 := by
  unfold zlt
  simp
theorem s_step (hd : 3 ≤ d) (hB : zBy B n) {q : Nat} (hq : q ≤ n) (hT : zTp B n M) (h2 : M.1 18 2 = nI q) : ∃ M', (zenv zbt d).2.2 47 [.ref 18] M = some M' ∧ zFr [18] M M' ∧ M'.1 18 6 = M.1 18 6 ∧ zRS B n M' q := by
  obtain ⟨d, rfl⟩ : ∃ e, d = e + 1 := ⟨d - 1, by omega⟩
  obtain ⟨b1, b2, b3⟩ := id hB
  by_cases hqn : q < n
  · have hx : M.1 19 q = nI (B q) := hT.2 q hqn
    have hb := b2 q hqn
    cases hg : zdg (B q)
    · have hz : zdn B q = 0 := (zdn_0 hB).mpr hg
      refine ⟨zw (zw (zw M 18 3 (nI q)) 18 2 (nI (q + 1))) 18 4 (if zlt (B q) then nI (B q) else -2), ?_, ((zFr.rf.w (by decide)).w (by decide)).w (by decide), by rw [zw_nk (by decide), zw_nk (by decide), zw_nk (by decide)], ⟨by rw [zw_nk (by decide), zw_nk (by decide), zw_nk (by decide)]; exact hT.1, fun i hi => by rw [zw_nc (by decide), zw_nc (by decide), zw_nc (by decide)]; exact hT.2 i hi⟩, hq, by rw [zw_nk (by decide), zw_nk (by decide), zw_eq], ?_, ?_, fun h => by omega⟩
      · have e2 : (zw M 18 3 (nI q)).1 18 2 = nI q := by rw [zw_nk (by decide)]; exact h2
        apply c_X3_step
        apply zL_of; rw [e_X3_step_0, h2, hT.1, if_pos (nI_lt hqn (by omega)), zck_t (zinN (by omega) (by decide)), zcN (by omega), hx, s_isFig (by omega) (by omega), Option.bind_some]
        dsimp only
        rw [hg, zbi_f (by decide), if_pos rfl, e2, nI_1]
        have i44 : (nI (B q) = (44 : Int32)) ↔ B q = 44 := nI_eq (b := 44) (by omega) (by decide)
        have i59 : (nI (B q) = (59 : Int32)) ↔ B q = 59 := nI_eq (b := 59) (by omega) (by decide)
        by_cases a : B q < 97
        · rw [if_pos (show nI (B q) < (97 : Int32) from nI_lt (b := 97) a (by decide))]
          by_cases a1 : B q = 44
          · rw [if_pos (i44.mpr a1), if_pos (zlt_iff.mpr (Or.inr (Or.inl a1)))]; rfl
          rw [if_neg (fun z => a1 (i44.mp z))]
          by_cases a2 : B q = 59
          · rw [if_pos (i59.mpr a2), if_pos (zlt_iff.mpr (Or.inr (Or.inr a2)))]; rfl
          rw [if_neg (fun z => a2 (i59.mp z)), if_neg (fun z => by have := zlt_iff.mp z; omega)]; rfl
        · rw [if_neg (show ¬ (nI (B q) < (97 : Int32)) from nI_nlt (b := 97) (by omega) (by omega))]
          by_cases a1 : B q ≤ 122
          · rw [if_pos (show nI (B q) ≤ (122 : Int32) from nI_le (b := 122) a1 (by decide)), if_pos (zlt_iff.mpr (Or.inl ⟨by omega, a1⟩))]; rfl
          rw [if_neg (show ¬ (nI (B q) ≤ (122 : Int32)) from nI_ge (a := 122) (by omega) (by omega)), if_neg (fun z => by have := i44.mp z; omega), if_neg (fun z => by have := i59.mp z; omega), if_neg (fun z => by have := zlt_iff.mp z; omega)]; rfl
      · rw [zw_nk (by decide), zw_eq]
        unfold zte
        rw [if_neg (by omega), if_pos hz]
      · rw [zw_eq]
        unfold ztk
        rw [if_neg (show ¬ n ≤ q by omega), if_pos hz]
    · have hz : zdn B q ≠ 0 := fun e => by rw [(zdn_0 hB).mp e] at hg; cases hg
      obtain ⟨M', e1, f1, k1, k6, k3, k2, k5, k4⟩ := s_over (d := d) (M := zw M 18 3 (nI q)) (by omega) hB hqn ⟨by rw [zw_nk (by decide)]; exact hT.1, fun i hi => by rw [zw_nc (by decide)]; exact hT.2 i hi⟩ (by rw [zw_nk (by decide)]; exact h2) (zw_eq _ _ _ _)
      have f1' : zFr [18] M M' := (zFr.rf.w (by decide)).trans f1
      refine ⟨M', ?_, f1', by rw [k6, zw_nk (by decide)], ⟨by rw [k1, zw_nk (by decide)]; exact hT.1, fun i hi => by rw [(f1' 19 (by decide)).1]; exact hT.2 i hi⟩, hq, k3, ?_, ?_, fun h => ?_⟩
      · apply c_X3_step
        apply zL_of; rw [e_X3_step_0, h2, hT.1, if_pos (nI_lt hqn (by omega)), zck_t (zinN (by omega) (by decide)), zcN (by omega), hx, s_isFig (by omega) (by omega), Option.bind_some]
        dsimp only
        rw [hg, zbi_t rfl, if_neg zn10, e1, Option.bind_some]; rfl
      · rw [k2]
        unfold zte
        rw [if_neg (by omega), if_neg hz]
      · rw [k4]
        unfold ztk
        rw [if_neg (show ¬ n ≤ q by omega), if_neg hz]
      · rw [k5]
        rcases h with h | h
        · rw [h]; exact znv_1 hB h
        · rw [h]; exact znv_2 hB h
  · have hqe : q = n := by omega
    have hz : zdn B q = 0 := (zdn_0 hB).mpr (by rw [b3 q (by omega)]; rfl)
    refine ⟨zw (zw M 18 3 (nI q)) 18 4 (-1), ?_, (zFr.rf.w (by decide)).w (by decide), by rw [zw_nk (by decide), zw_nk (by decide)], ⟨by rw [zw_nk (by decide), zw_nk (by decide)]; exact hT.1, fun i hi => by rw [zw_nc (by decide), zw_nc (by decide)]; exact hT.2 i hi⟩, hq, by rw [zw_nk (by decide), zw_eq], ?_, ?_, fun h => by omega⟩
    · apply c_X3_step
      apply zL_of; rw [e_X3_step_0, h2, hT.1, if_neg (nI_nlt (by omega) (by omega))]; rfl
    · rw [zw_nk (by decide), zw_nk (by decide), h2]
      unfold zte
      rw [if_pos (by omega)]
    · rw [zw_eq]
      unfold ztk
      rw [if_pos (by omega)]
/-- a fault (its number, its place), or what is read -/
def zpT (B : Nat → Nat) (s q : Nat) : (Nat × Nat) ⊕ Nat := if B q = s then .inr (q + 1) else .inl (1, q)
def zpN (B : Nat → Nat) (lo hi q : Nat) : (Nat × Nat) ⊕ (Nat × Nat) := if zdn B q = 0 ∨ 2 < zdn B q then .inl (1, q) else if lo ≤ zdv B q ∧ zdv B q ≤ hi then .inr (zdv B q, q + zdn B q) else .inl (2, q)
theorem s_refuse (hd : 1 ≤ d) (x : Int32) : (zenv zbt d).1 46 [.ref 18, .int x] M = some (0, zw M 18 6 x) := by
  obtain ⟨d, rfl⟩ : ∃ e, d = e + 1 := ⟨d - 1, by omega⟩
  apply c_X3_refuse
  apply zL_of; rw [e_X3_refuse_0]; rfl
theorem ztk_s (hB : zBy B n) {s q : Nat} (hs : zlt s = true) : ztk B n q = nI s ↔ B q = s := by
  have h1 := zlt_iff.mp hs
  unfold ztk
  by_cases hq : n ≤ q
  · rw [if_pos hq, hB.2.2 q hq]
    constructor
    · intro h
      have h2 := congrArg Int32.toInt h
      rw [nI_toInt (by omega), show (-1 : Int32).toInt = -1 by decide] at h2
      omega
    · intro h; omega
  rw [if_neg hq]
  have hb := hB.2.1 q (by omega)
  by_cases hz : zdn B q = 0
  · rw [if_pos hz]
    by_cases hl : zlt (B q) = true
    · rw [if_pos hl, nI_eq (by omega) (by omega)]
    · rw [if_neg hl]
      constructor
      · intro h
        have h2 := congrArg Int32.toInt h
        rw [nI_toInt (by omega), show (-2 : Int32).toInt = -2 by decide] at h2
        omega
      · intro h
        rw [h] at hl
        exact absurd hs hl
  · rw [if_neg hz]
    have hg : zdg (B q) = true := by
      cases g : zdg (B q)
      · exact absurd ((zdn_0 hB).mpr g) hz
      · rfl
    have hg2 := zdg_iff.mp hg
    constructor
    · intro h
      split at h
      · have h2 := congrArg Int32.toInt h
        rw [nI_toInt (by omega), show (-2 : Int32).toInt = -2 by decide] at h2
        omega
      · have h2 := congrArg Int32.toInt h
        rw [nI_toInt (by omega), show (0 : Int32).toInt = 0 by decide] at h2
        omega
    · intro h; omega
theorem s_takesC (hd : 4 ≤ d) (hB : zBy B n) {s q : Nat} (hs : zlt s = true) (hR : zRS B n M q) : (∀ e, zpT B s q = .inl e → (zenv zbt d).1 44 [.ref 18, .int (nI s)] M = some (0, zw M 18 6 (nI e.1)) ∧ e.2 = q) ∧ (∀ q', zpT B s q = .inr q' → ∃ M', (zenv zbt d).1 44 [.ref 18, .int (nI s)] M = some (1, M') ∧ zFr [18] M M' ∧ M'.1 18 6 = M.1 18 6 ∧ zRS B n M' q') := by
  obtain ⟨d, rfl⟩ : ∃ e, d = e + 1 := ⟨d - 1, by omega⟩
  obtain ⟨r1, r2, r3, r4, r5, r6⟩ := hR
  have hl := zlt_iff.mp hs
  unfold zpT
  by_cases h : B q = s
  · rw [if_pos h]
    refine ⟨fun e he => (by cases he), fun q' he => ?_⟩
    cases he
    have hqn : q < n := Nat.lt_of_not_le fun g => by rw [hB.2.2 q g] at h; omega
    have hz : zdn B q = 0 := (zdn_0 hB).mpr (by
      cases g : zdg (B q)
      · rfl
      · have := zdg_iff.mp g
        omega)
    have e4 : zte B n q = q + 1 := by unfold zte; rw [if_neg (by omega), if_pos hz]
    rw [e4] at r4
    obtain ⟨M', e1, f1, g1, g2⟩ := s_step (d := d) (by omega) hB (show q + 1 ≤ n by omega) r1 r4
    refine ⟨M', ?_, f1, g1, g2⟩
    apply c_X3_takes
    apply zL_of; rw [e_X3_takes_0, r5, if_pos ((ztk_s hB hs).mpr h), e1, Option.bind_some]; rfl
  · rw [if_neg h]
    refine ⟨fun e he => ?_, fun q' he => (by cases he)⟩
    cases he
    refine ⟨?_, rfl⟩
    apply c_X3_takes
    apply zL_of; rw [e_X3_takes_0, r5, if_neg (fun g => h ((ztk_s hB hs).mp g)), s_refuse (by omega), Option.bind_some]; rfl
theorem zdv_lt (hB : zBy B n) {q : Nat} (h : zdn B q = 1 ∨ zdn B q = 2) : zdv B q ≤ 99 := by
  obtain ⟨h1, -⟩ := zdn_sp hB q
  have a := zdg_iff.mp (h1 0 (by omega))
  rw [Nat.add_zero] at a
  unfold zdv
  rcases h with h | h
  · rw [if_pos h]; omega
  · rw [if_neg (by omega)]
    have b := zdg_iff.mp (h1 1 (by omega))
    omega
theorem ztk_0 (hB : zBy B n) {q : Nat} (hq : q ≤ n) : ztk B n q = 0 ↔ ¬ (zdn B q = 0 ∨ 2 < zdn B q) := by
  unfold ztk
  by_cases g : n ≤ q
  · have hz : zdn B q = 0 := (zdn_0 hB).mpr (by rw [hB.2.2 q g]; rfl)
    rw [if_pos g, hz]
    constructor
    · intro h; exact absurd h (by decide)
    · intro h; exact absurd (Or.inl rfl) h
  rw [if_neg g]
  by_cases hz : zdn B q = 0
  · rw [if_pos hz, hz]
    constructor
    · intro h
      split at h
      · rename_i hl
        have h1 := zlt_iff.mp hl
        have h2 := congrArg Int32.toInt h
        rw [nI_toInt (by omega), show (0 : Int32).toInt = 0 by decide] at h2
        omega
      · exact absurd h (by decide)
    · intro h; exact absurd (Or.inl rfl) h
  · rw [if_neg hz]
    by_cases h2 : 2 < zdn B q
    · rw [if_pos h2]
      constructor
      · intro h; exact absurd h (by decide)
      · intro h; exact absurd (Or.inr h2) h
    · rw [if_neg h2]
      constructor
      · intro _; omega
      · intro _; rfl
theorem s_numC (hd : 4 ≤ d) (hB : zBy B n) {lo hi q : Nat} (hlo : lo < 2 ^ 31) (hhi : hi < 2 ^ 31) (hR : zRS B n M q) : (∀ e, zpN B lo hi q = .inl e → (zenv zbt d).1 45 [.ref 18, .int (nI lo), .int (nI hi)] M = some (-1, zw M 18 6 (nI e.1)) ∧ e.2 = q) ∧ (∀ v, zpN B lo hi q = .inr v → (lo ≤ v.1 ∧ v.1 ≤ hi ∧ v.1 ≤ 99) ∧ ∃ M', (zenv zbt d).1 45 [.ref 18, .int (nI lo), .int (nI hi)] M = some (nI v.1, M') ∧ zFr [18] M M' ∧ M'.1 18 6 = M.1 18 6 ∧ zRS B n M' v.2) := by
  obtain ⟨d, rfl⟩ : ∃ e, d = e + 1 := ⟨d - 1, by omega⟩
  obtain ⟨r1, r2, r3, r4, r5, r6⟩ := hR
  unfold zpN
  by_cases h : zdn B q = 0 ∨ 2 < zdn B q
  · rw [if_pos h]
    refine ⟨fun e he => ?_, fun v he => (by cases he)⟩
    cases he
    refine ⟨?_, rfl⟩
    apply c_X3_takeNumber
    apply zL_of; rw [e_X3_takeNumber_0, r5, if_neg (fun g => (ztk_0 hB r2).mp g h), s_refuse (by omega), Option.bind_some]; rfl
  · rw [if_neg h]
    have h12 : zdn B q = 1 ∨ zdn B q = 2 := by omega
    have hv := zdv_lt hB h12
    have h5 := r6 h12
    by_cases h2 : lo ≤ zdv B q ∧ zdv B q ≤ hi
    · rw [if_pos h2]
      refine ⟨fun e he => (by cases he), fun v he => ?_⟩
      cases he
      have e4 : zte B n q = q + zdn B q := by
        unfold zte
        by_cases g : n ≤ q
        · have hz : zdn B q = 0 := (zdn_0 hB).mpr (by rw [hB.2.2 q g]; rfl)
          omega
        · rw [if_neg g, if_neg (by omega)]
      rw [e4] at r4
      obtain ⟨M', e1, f1, g1, g2⟩ := s_step (d := d) (by omega) hB (zdn_le hB r2) r1 r4
      refine ⟨⟨h2.1, h2.2, hv⟩, M', ?_, f1, g1, g2⟩
      apply c_X3_takeNumber
      apply zL_of; rw [e_X3_takeNumber_0, r5, if_pos ((ztk_0 hB r2).mpr h), h5, if_neg (nI_nlt h2.1 (by omega)), if_pos (nI_le h2.2 hhi), e1, Option.bind_some]; rfl
    · rw [if_neg h2]
      refine ⟨fun e he => ?_, fun v he => (by cases he)⟩
      cases he
      refine ⟨?_, rfl⟩
      apply c_X3_takeNumber
      apply zL_of; rw [e_X3_takeNumber_0, r5, if_pos ((ztk_0 hB r2).mpr h), h5]
      by_cases h3 : zdv B q < lo
      · rw [if_pos (nI_lt h3 hlo), s_refuse (by omega), Option.bind_some]; rfl
      · rw [if_neg (nI_nlt (by omega) (by omega)), if_neg (nI_ge (by omega) (by omega)), s_refuse (by omega), Option.bind_some]; rfl
end ZX54

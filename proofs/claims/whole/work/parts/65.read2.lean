/-! A sheet as the class reads it: the law, stamps, customers -/
/-- the class's sheet at 27, stamps of the first c cells -/
def zPS (T : Nat → Nat) (c : Nat) (M : ZM) : Prop := M.1 27 0 = nI (T 1) ∧ M.1 27 1 = nI (T 0) ∧ M.1 27 2 = nI (T 2) ∧ M.1 27 3 = nI (T 23) ∧ M.1 27 4 = nI (T 24) ∧ M.1 27 5 = nI (zon T) ∧ M.1 27 6 = nI (T 25) ∧ M.1 27 7 = nI (zair T) ∧ (∀ i, i < T 0 → M.1 28 i = nI (znx (T 1) (T 0) i)) ∧ (∀ i, i < c → M.1 29 i = nI (T (3 + i)) ∧ M.1 30 i = nI (T (31 + i))) ∧ (∀ i, i < T 2 → M.1 31 i = nI (T (13 + i)) ∧ M.1 32 i = nI (T (18 + i)) ∧ M.1 33 i = nI (T (26 + i)))
/-- what holds of it -/
def zwP (T : Nat → Nat) (c : Nat) : Prop := T 0 ≤ 10 ∧ 1 ≤ T 0 ∧ (T 1, T 0) ∈ zshp ∧ T 2 ≤ 5 ∧ (∀ i, i < c → 1 ≤ T (3 + i) ∧ T (3 + i) ≤ 5 ∧ T (31 + i) ≤ 9) ∧ T 23 ≤ 9 ∧ (∀ i, i < T 2 → T (13 + i) ≤ 99 ∧ T (18 + i) ≤ 99) ∧ T 24 = 0 ∧ T 25 = 0 ∧ ∀ i, i < 5 → T (26 + i) = 0
def zT0 (w h o : Nat) : Nat → Nat := fun k => if k = 0 then w * h else if k = 1 then w else if k = 23 then o else 0
def zadd (T : Nat → Nat) (l m : Nat) : Nat → Nat := fun j => if j = 2 then T 2 + 1 else if j = 13 + T 2 then l else if j = 18 + T 2 then m else T j
theorem zwP.wf {T : Nat → Nat} (h : zwP T (T 0)) : zwf T := by
  obtain ⟨h0, h1, hs, h2, hk, h23, hc, h24, h25, hp⟩ := h
  refine ⟨h0, h2, Or.inr hs, hk, h23, hc, by rw [h25]; exact Nat.two_pow_pos _, fun c hc => ⟨by rw [hp c hc]; exact Nat.two_pow_pos _, fun _ => hp c hc⟩, fun c e hc he _ => by rw [hp c hc, Nat.zero_and], fun c hc => by rw [hp c hc, Nat.zero_and]⟩
theorem zPS.sh {T : Nat → Nat} {M : ZM} (h : zPS T (T 0) M) : zSheet T 27 M := by
  obtain ⟨p0, p1, p2, p3, p4, p5, p6, p7, p8, p9, p10⟩ := h
  exact ⟨p0, p1, p2, p3, p4, p5, p6, p7, fun i hi => ⟨p8 i hi, (p9 i hi).1, (p9 i hi).2⟩, p10⟩
theorem zPS.fr {T : Nat → Nat} {c : Nat} {M M' : ZM} (h : zPS T c M) (hf : zFr [18] M M') : zPS T c M' := by
  unfold zPS at h ⊢
  rw [(hf 27 (by decide)).1, (hf 28 (by decide)).1, (hf 29 (by decide)).1, (hf 30 (by decide)).1, (hf 31 (by decide)).1, (hf 32 (by decide)).1, (hf 33 (by decide)).1]
  exact h
theorem zshp_of : ∀ w, w < 7 → ∀ h, h < 7 → (1 ≤ w ∧ 1 ≤ h ∧ h ≤ 10 / w) → ((w, w * h) ∈ zshp ∧ w * h ≤ 10 ∧ 1 ≤ w * h) := by
  intro w hw h hh hx
  have h1 : w = 1 ∨ w = 2 ∨ w = 3 ∨ w = 4 ∨ w = 5 ∨ w = 6 := by omega
  have h2 : h = 1 ∨ h = 2 ∨ h = 3 ∨ h = 4 ∨ h = 5 ∨ h = 6 := by omega
  rcases h1 with rfl | rfl | rfl | rfl | rfl | rfl <;> rcases h2 with rfl | rfl | rfl | rfl | rfl | rfl
  all_goals first
    | (exfalso; omega)
    | exact ⟨by simp [zshp], by omega, by omega⟩
theorem zwP.t0 {w h o : Nat} (hw : 1 ≤ w) (hw6 : w ≤ 6) (hh : 1 ≤ h) (hh6 : h ≤ min 6 (10 / w)) (ho : o ≤ 9) : zwP (zT0 w h o) 0 := by
  obtain ⟨a1, a2, a3⟩ := zshp_of w (by omega) h (by omega) ⟨hw, hh, by omega⟩
  have z : ∀ k, k ≠ 0 → k ≠ 1 → k ≠ 23 → zT0 w h o k = 0 := fun k h0 h1 h2 => by unfold zT0; rw [if_neg h0, if_neg h1, if_neg h2]
  have e0 : zT0 w h o 0 = w * h := rfl
  have e1 : zT0 w h o 1 = w := rfl
  have e23 : zT0 w h o 23 = o := rfl
  refine ⟨by rw [e0]; exact a2, by rw [e0]; exact a3, by rw [e0, e1]; exact a1, by rw [z 2 (by omega) (by omega) (by omega)]; omega, fun i hi => by omega, by rw [e23]; exact ho, fun i hi => ?_, z 24 (by omega) (by omega) (by omega), z 25 (by omega) (by omega) (by omega), fun i hi => z (26 + i) (by omega) (by omega) (by omega)⟩
  rw [z 2 (by omega) (by omega) (by omega)] at hi
  omega
section ZX55
variable {d : Nat} {M : ZM} {T : Nat → Nat}
theorem s_findNext (hd : 1 ≤ d) {n w c : Nat} (hn : n ≤ 10) (hw : 1 ≤ w) (hw10 : w ≤ 10) (hc : c < n) (h0 : M.1 27 0 = nI w) (h1 : M.1 27 1 = nI n) : (zenv zbt d).1 54 [.ref 27, .int (nI c)] M = some (nI (znx w n c), M) := by
  obtain ⟨d, rfl⟩ : ∃ e, d = e + 1 := ⟨d - 1, by omega⟩
  have hmod : c % w < w := Nat.mod_lt _ (by omega)
  have hml : c % w ≤ c := Nat.mod_le _ _
  have er : zrem (nI c) (nI w) = nI (c % w) := pk_rem (by omega) (by omega) (by omega)
  have ew : nI w - 1 = nI (w - 1) := pk_sub (b := 1) (by omega)
  have ez : (!(decide (nI w = 0))) = true := by
    rw [decide_eq_false (nI_ne0 (by omega) (by omega))]; rfl
  have z2 : zshl 1 (nI c + 1) = nI (2 ^ (c + 1)) := by rw [nI_1]; exact zshl1 (by omega)
  have z4 : zshl 1 (nI c + nI w) = nI (2 ^ (c + w)) := by rw [nI_add]; exact zshl1 (by omega)
  have zz : (0 : Int32) = nI 0 := rfl
  have fin : ∀ {a b e f g : Nat}, g = ((a ||| b) ||| e) ||| f → zPo (zenv zbt d) tb_X5_findNext cu_X5_findNext (some (.inl (some (.int ((((0 ||| nI a) ||| nI b) ||| nI e) ||| nI f)), M))) (some (.int (nI g)), M) := by
    intro a b e f g hg
    rw [zz, zor, zor, zor, zor, Nat.zero_or, hg]
    rfl
  have z1 : 0 < c % w → zshl 1 (nI c - 1) = nI (2 ^ (c - 1)) := fun c1 => by rw [show nI c - 1 = nI (c - 1) from pk_sub (b := 1) (by omega)]; exact zshl1 (by omega)
  have z3 : w ≤ c → zshl 1 (nI c - nI w) = nI (2 ^ (c - w)) := fun c3 => by rw [pk_sub c3]; exact zshl1 (by omega)
  apply c_X5_findNext
  apply zL_of; rw [e_X5_findNext_0 _ _ _ (Or.inr rfl), h0, h1, er, ew, if_pos (show (1 : Int32) ≤ nI w from nI_le (a := 1) hw (by omega)), zck_t ez, zck_t ez, zck_t ez, z2, z4, nI_add]
  by_cases c1 : 0 < c % w
  · rw [if_neg (nI_nle c1 (by omega))]
    by_cases c2 : c % w < w - 1
    · rw [if_neg (nI_ge c2 (by omega))]
      by_cases c3 : w ≤ c
      · rw [if_neg (nI_nlt c3 (by omega))]
        by_cases c4 : c + w < n
        · rw [if_neg (nI_ge c4 (by omega))]
          rw [z1 c1, z3 c3]
          exact fin (a := 2 ^ (c - 1)) (b := 2 ^ (c + 1)) (e := 2 ^ (c - w)) (f := 2 ^ (c + w)) (by unfold znx; rw [if_pos c1, if_pos c2, if_pos c3, if_pos c4])
        · rw [if_pos (nI_le (by omega) (by omega))]
          rw [z1 c1, z3 c3]
          exact fin (a := 2 ^ (c - 1)) (b := 2 ^ (c + 1)) (e := 2 ^ (c - w)) (f := 0) (by unfold znx; rw [if_pos c1, if_pos c2, if_pos c3, if_neg c4])
      · rw [if_pos (nI_lt (by omega) (by omega))]
        by_cases c4 : c + w < n
        · rw [if_neg (nI_ge c4 (by omega))]
          rw [z1 c1]
          exact fin (a := 2 ^ (c - 1)) (b := 2 ^ (c + 1)) (e := 0) (f := 2 ^ (c + w)) (by unfold znx; rw [if_pos c1, if_pos c2, if_neg c3, if_pos c4])
        · rw [if_pos (nI_le (by omega) (by omega))]
          rw [z1 c1]
          exact fin (a := 2 ^ (c - 1)) (b := 2 ^ (c + 1)) (e := 0) (f := 0) (by unfold znx; rw [if_pos c1, if_pos c2, if_neg c3, if_neg c4])
    · rw [if_pos (nI_le (by omega) (by omega))]
      by_cases c3 : w ≤ c
      · rw [if_neg (nI_nlt c3 (by omega))]
        by_cases c4 : c + w < n
        · rw [if_neg (nI_ge c4 (by omega))]
          rw [z1 c1, z3 c3]
          exact fin (a := 2 ^ (c - 1)) (b := 0) (e := 2 ^ (c - w)) (f := 2 ^ (c + w)) (by unfold znx; rw [if_pos c1, if_neg c2, if_pos c3, if_pos c4])
        · rw [if_pos (nI_le (by omega) (by omega))]
          rw [z1 c1, z3 c3]
          exact fin (a := 2 ^ (c - 1)) (b := 0) (e := 2 ^ (c - w)) (f := 0) (by unfold znx; rw [if_pos c1, if_neg c2, if_pos c3, if_neg c4])
      · rw [if_pos (nI_lt (by omega) (by omega))]
        by_cases c4 : c + w < n
        · rw [if_neg (nI_ge c4 (by omega))]
          rw [z1 c1]
          exact fin (a := 2 ^ (c - 1)) (b := 0) (e := 0) (f := 2 ^ (c + w)) (by unfold znx; rw [if_pos c1, if_neg c2, if_neg c3, if_pos c4])
        · rw [if_pos (nI_le (by omega) (by omega))]
          rw [z1 c1]
          exact fin (a := 2 ^ (c - 1)) (b := 0) (e := 0) (f := 0) (by unfold znx; rw [if_pos c1, if_neg c2, if_neg c3, if_neg c4])
  · rw [if_pos (show nI (c % w) ≤ (0 : Int32) from nI_le (b := 0) (by omega) (by decide))]
    by_cases c2 : c % w < w - 1
    · rw [if_neg (nI_ge c2 (by omega))]
      by_cases c3 : w ≤ c
      · rw [if_neg (nI_nlt c3 (by omega))]
        by_cases c4 : c + w < n
        · rw [if_neg (nI_ge c4 (by omega))]
          rw [z3 c3]
          exact fin (a := 0) (b := 2 ^ (c + 1)) (e := 2 ^ (c - w)) (f := 2 ^ (c + w)) (by unfold znx; rw [if_neg c1, if_pos c2, if_pos c3, if_pos c4])
        · rw [if_pos (nI_le (by omega) (by omega))]
          rw [z3 c3]
          exact fin (a := 0) (b := 2 ^ (c + 1)) (e := 2 ^ (c - w)) (f := 0) (by unfold znx; rw [if_neg c1, if_pos c2, if_pos c3, if_neg c4])
      · rw [if_pos (nI_lt (by omega) (by omega))]
        by_cases c4 : c + w < n
        · rw [if_neg (nI_ge c4 (by omega))]
          exact fin (a := 0) (b := 2 ^ (c + 1)) (e := 0) (f := 2 ^ (c + w)) (by unfold znx; rw [if_neg c1, if_pos c2, if_neg c3, if_pos c4])
        · rw [if_pos (nI_le (by omega) (by omega))]
          exact fin (a := 0) (b := 2 ^ (c + 1)) (e := 0) (f := 0) (by unfold znx; rw [if_neg c1, if_pos c2, if_neg c3, if_neg c4])
    · rw [if_pos (nI_le (by omega) (by omega))]
      by_cases c3 : w ≤ c
      · rw [if_neg (nI_nlt c3 (by omega))]
        by_cases c4 : c + w < n
        · rw [if_neg (nI_ge c4 (by omega))]
          rw [z3 c3]
          exact fin (a := 0) (b := 0) (e := 2 ^ (c - w)) (f := 2 ^ (c + w)) (by unfold znx; rw [if_neg c1, if_neg c2, if_pos c3, if_pos c4])
        · rw [if_pos (nI_le (by omega) (by omega))]
          rw [z3 c3]
          exact fin (a := 0) (b := 0) (e := 2 ^ (c - w)) (f := 0) (by unfold znx; rw [if_neg c1, if_neg c2, if_pos c3, if_neg c4])
      · rw [if_pos (nI_lt (by omega) (by omega))]
        by_cases c4 : c + w < n
        · rw [if_neg (nI_ge c4 (by omega))]
          exact fin (a := 0) (b := 0) (e := 0) (f := 2 ^ (c + w)) (by unfold znx; rw [if_neg c1, if_neg c2, if_neg c3, if_pos c4])
        · rw [if_pos (nI_le (by omega) (by omega))]
          exact fin (a := 0) (b := 0) (e := 0) (f := 0) (by unfold znx; rw [if_neg c1, if_neg c2, if_neg c3, if_neg c4])
theorem s_beginS (hd : 2 ≤ d) {w h o : Nat} (hP : zwP (zT0 w h o) 0) (hw : 1 ≤ w) (hw6 : w ≤ 6) : ∃ M', (zenv zbt d).2.2 53 [.ref 27, .int (nI w), .int (nI h), .int (nI o)] M = some M' ∧ zFr [27, 28] M M' ∧ zPS (zT0 w h o) 0 M' := by
  obtain ⟨d, rfl⟩ : ∃ e, d = e + 1 := ⟨d - 1, by omega⟩
  have hN : w * h ≤ 10 := hP.1
  have hp10 := zpow10 hN
  have hp1 := Nat.two_pow_pos (w * h)
  have emin : zmin (nI w * nI h) 10 = nI (w * h) := by
    rw [pk_mul, show (10 : Int32) = nI 10 from rfl, zminN (by omega) (by decide), Nat.min_eq_left hN]
  have eon : zshl 1 (nI (w * h)) - 1 = nI (2 ^ (w * h) - 1) := by
    rw [show zshl 1 (nI (w * h)) = nI (2 ^ (w * h)) from zshl1 (by omega)]
    exact pk_sub (b := 1) (by omega)
  have key : ∀ c, c ≤ w * h → ∀ Mk, zFr [28] (zw (zw (zw (zw (zw (zw (zw (zw M 27 0 (nI w)) 27 1 (nI (w * h))) 27 2 0) 27 3 (nI o)) 27 4 0) 27 5 (nI (2 ^ (w * h) - 1))) 27 6 0) 27 7 0) Mk → (∀ i, i < c → Mk.1 28 i = nI (znx w (w * h) i)) → ∃ M', zL (zenv zbt d) tb2_X5_begin cu_X5_begin 57 [some (.ref 27), none, none, none, some (.int (nI c))] [] Mk (none, M') ∧ zFr [28] (zw (zw (zw (zw (zw (zw (zw (zw M 27 0 (nI w)) 27 1 (nI (w * h))) 27 2 0) 27 3 (nI o)) 27 4 0) 27 5 (nI (2 ^ (w * h) - 1))) 27 6 0) 27 7 0) M' ∧ ∀ i, i < w * h → M'.1 28 i = nI (znx w (w * h) i) := by
    have r0 : ∀ Mk, zFr [28] (zw (zw (zw (zw (zw (zw (zw (zw M 27 0 (nI w)) 27 1 (nI (w * h))) 27 2 0) 27 3 (nI o)) 27 4 0) 27 5 (nI (2 ^ (w * h) - 1))) 27 6 0) 27 7 0) Mk → Mk.1 27 0 = nI w ∧ Mk.1 27 1 = nI (w * h) := fun Mk hf => by
      rw [(hf 27 (by decide)).1]
      simp (disch := decide) only [zw_nk, zw_eq, and_self]
    apply zup
    · intro Mk hf hv
      refine ⟨Mk, ?_, hf, hv⟩
      apply zL_of; rw [e2_X5_begin_57 _ _ _ (Or.inr rfl), (r0 Mk hf).2, if_pos (nI_le (Nat.le_refl _) (by omega))]; rfl
    · intro c hc ih Mk hf hv
      obtain ⟨M', g1, g2⟩ := ih (zw Mk 28 c (nI (znx w (w * h) c))) (hf.w (by decide)) (fun i hi => by
        by_cases q : i = c
        · rw [q, zw_eq]
        · rw [zw_nk q]; exact hv i (by omega))
      refine ⟨M', ?_, g2⟩
      apply zL_of; rw [e2_X5_begin_57 _ _ _ (Or.inr rfl), (r0 Mk hf).2, if_neg (nI_ge hc (by omega)), s_findNext (by omega) hN hw (by omega) hc (r0 Mk hf).1 (r0 Mk hf).2, Option.bind_some]
      dsimp only
      rw [zck_t (zinN (by omega) (by decide)), zcN (by omega), nI_1]
      exact zPo_go g1
  obtain ⟨M', g1, g2, g3⟩ := key 0 (Nat.zero_le _) _ zFr.rf (fun i hi => by omega)
  have z : ∀ k, k ≠ 0 → k ≠ 1 → k ≠ 23 → zT0 w h o k = 0 := fun k h0 h1 h2 => by unfold zT0; rw [if_neg h0, if_neg h1, if_neg h2]
  have e0 : zT0 w h o 0 = w * h := rfl
  have e1 : zT0 w h o 1 = w := rfl
  have e23 : zT0 w h o 23 = o := rfl
  have hon : zon (zT0 w h o) = 2 ^ (w * h) - 1 := by
    unfold zon zgone
    rw [z 25 (by omega) (by omega) (by omega), z 26 (by omega) (by omega) (by omega), z 27 (by omega) (by omega) (by omega), z 28 (by omega) (by omega) (by omega), z 29 (by omega) (by omega) (by omega), z 30 (by omega) (by omega) (by omega), e0]
    simp [zdif]
  have hair : zair (zT0 w h o) = 0 := by
    apply Nat.eq_of_testBit_eq
    intro i
    rw [Nat.zero_testBit]
    cases q : (zair (zT0 w h o)).testBit i
    · rfl
    · obtain ⟨q1, q2⟩ := zair_bit.mp q
      rw [e0] at q1
      rw [z (3 + i) (by omega) (by omega) (by omega)] at q2
      omega
  refine ⟨M', ?_, ((((((((zFr.rf.w (by decide)).w (by decide)).w (by decide)).w (by decide)).w (by decide)).w (by decide)).w (by decide)).w (by decide)).trans (g2.mono (by decide)), ?_⟩
  · apply c_X5_begin
    apply zL_of; rw [e2_X5_begin_0 _ _ _ (Or.inr rfl), emin, eon]
    exact zPo_go g1
  · unfold zPS
    rw [e0, e1, e23, z 2 (by omega) (by omega) (by omega), z 24 (by omega) (by omega) (by omega), z 25 (by omega) (by omega) (by omega), hon, hair, (g2 27 (by decide)).1]
    refine ⟨?_, ?_, ?_, ?_, ?_, ?_, ?_, ?_, g3, fun i hi => by omega, fun i hi => by omega⟩
    all_goals (simp (disch := decide) only [zw_nk, zw_eq]; try rfl)
theorem zair_up3 (hn : T 0 ≤ 10) {c k v : Nat} (hc : c < T 0) : zair (zup2 T c k v) = if k < 4 then zdif (zair T) (2 ^ c) else zair T ||| 2 ^ c := by
  apply zeqb
  intro i
  rw [zair_bit, zup2_o (by omega) (by omega)]
  by_cases hk : k < 4
  · rw [if_pos hk, zdif_bit, Bool.and_eq_true, zair_bit]
    by_cases hi : i < T 0
    · rw [zup2_k (by omega) (by omega)]
      by_cases e : i = c
      · subst e
        rw [if_pos rfl, z2b.mpr rfl]
        simp
        omega
      · rw [if_neg e]
        have : (2 ^ c).testBit i = false := by
          cases q : (2 ^ c).testBit i
          · rfl
          · exact absurd (z2b.mp q).symm e
        rw [this]
        simp
    · simp [hi]
  · rw [if_neg hk, Nat.testBit_or, Bool.or_eq_true, zair_bit, z2b]
    by_cases hi : i < T 0
    · rw [zup2_k (by omega) (by omega)]
      by_cases e : i = c
      · subst e
        rw [if_pos rfl]
        simp [hi]
        omega
      · rw [if_neg e]
        simp [hi, Ne.symm e]
    · constructor
      · intro q; exact absurd q.1 hi
      · rintro (q | q)
        · exact absurd q.1 hi
        · omega
theorem zwP.up {c k v : Nat} (h : zwP T c) (hc : c < T 0) (h1 : 1 ≤ k) (h5 : k ≤ 5) (h9 : v ≤ 9) : zwP (zup2 T c k v) (c + 1) := by
  obtain ⟨h0, h1', hs, h2, hk, h23, hcu, h24, h25, hp⟩ := h
  have e : ∀ j, (j < 3 ∨ (13 ≤ j ∧ j < 31)) → zup2 T c k v j = T j := fun j h => zup2_o (by omega) h
  refine ⟨by rw [e 0 (by omega)]; exact h0, by rw [e 0 (by omega)]; exact h1', by rw [e 0 (by omega), e 1 (by omega)]; exact hs, by rw [e 2 (by omega)]; exact h2, fun i hi => ?_, by rw [e 23 (by omega)]; exact h23, fun i hi => ?_, by rw [e 24 (by omega)]; exact h24, by rw [e 25 (by omega)]; exact h25, fun i hi => by rw [e (26 + i) (by omega)]; exact hp i hi⟩
  · rw [zup2_k (by omega) (by omega), zup2_v (by omega)]
    by_cases q : i = c
    · rw [if_pos q, if_pos q]; exact ⟨h1, h5, h9⟩
    · rw [if_neg q, if_neg q]; exact hk i (by omega)
  · rw [e 2 (by omega)] at hi
    rw [e (13 + i) (by omega), e (18 + i) (by omega)]; exact hcu i hi
theorem s_putP (hd : 1 ≤ d) {c k v : Nat} (hW : zwP T c) (hS : zPS T c M) (hc : c < T 0) (hk : k < 10) : ∃ M', (zenv zbt d).2.2 55 [.ref 27, .int (nI c), .int (nI k), .int (nI v)] M = some M' ∧ zFr [27, 29, 30] M M' ∧ zPS (zup2 T c k v) (c + 1) M' := by
  obtain ⟨d, rfl⟩ : ∃ e, d = e + 1 := ⟨d - 1, by omega⟩
  have hn := hW.1
  have h2 := hW.2.2.2.1
  have hc10 : c < 10 := by omega
  have ha : zair T < 1024 := Nat.lt_of_lt_of_le zair_lt (zpow10 hn)
  have e : ∀ j, (j < 3 ∨ (13 ≤ j ∧ j < 31)) → zup2 T c k v j = T j := fun j h => zup2_o hc10 h
  obtain ⟨s0, s1, s2, s3, s4, s5, s6, s7, s8, s9, s10⟩ := hS
  refine ⟨zw (zw (zw M 29 c (nI k)) 30 c (nI v)) 27 7 (nI (zair (zup2 T c k v))), ?_, ((zFr.rf.w (by simp)).w (by simp)).w (by simp), ?_⟩
  · apply c_X5_put
    apply zL_of; rw [e_X5_put_0 _ _ _ (Or.inr rfl), zck_t (zinN hc10 (by decide)), zck_t (zinN hc10 (by decide)), zcN (by omega), s7, show zshl 1 (nI c) = nI (2 ^ c) from zshl1 (by omega), zandn (by omega), zor, zair_up3 hn hc]
    by_cases h4 : k < 4
    · rw [if_pos (show nI k < (4 : Int32) from nI_lt (b := 4) h4 (by decide)), if_pos h4]; rfl
    · rw [if_neg (show ¬ (nI k < (4 : Int32)) from nI_nlt (b := 4) (Nat.le_of_not_lt h4) (by omega)), if_neg h4]; rfl
  · unfold zPS
    rw [e 0 (by omega), e 1 (by omega), e 2 (by omega), e 23 (by omega), e 24 (by omega), e 25 (by omega), zon_up2 hc10]
    refine ⟨?_, ?_, ?_, ?_, ?_, ?_, ?_, zw_eq _ _ _ _, fun i hi => ?_, fun i hi => ⟨?_, ?_⟩, fun i hi => ⟨?_, ?_, ?_⟩⟩
    · rw [zw_nk (by decide), zw_nc (by decide), zw_nc (by decide)]; exact s0
    · rw [zw_nk (by decide), zw_nc (by decide), zw_nc (by decide)]; exact s1
    · rw [zw_nk (by decide), zw_nc (by decide), zw_nc (by decide)]; exact s2
    · rw [zw_nk (by decide), zw_nc (by decide), zw_nc (by decide)]; exact s3
    · rw [zw_nk (by decide), zw_nc (by decide), zw_nc (by decide)]; exact s4
    · rw [zw_nk (by decide), zw_nc (by decide), zw_nc (by decide)]; exact s5
    · rw [zw_nk (by decide), zw_nc (by decide), zw_nc (by decide)]; exact s6
    · rw [zw_nc (by decide), zw_nc (by decide), zw_nc (by decide)]; exact s8 i hi
    · rw [zw_nc (by decide), zw_nc (by decide), zup2_k hc10 (by omega)]
      by_cases q : i = c
      · rw [q, if_pos rfl, zw_eq]
      · rw [if_neg q, zw_nk q]; exact (s9 i (by omega)).1
    · rw [zw_nc (by decide), zup2_v hc10]
      by_cases q : i = c
      · rw [q, if_pos rfl, zw_eq]
      · rw [if_neg q, zw_nk q, zw_nc (by decide)]; exact (s9 i (by omega)).2
    · rw [zw_nc (by decide), zw_nc (by decide), zw_nc (by decide), e (13 + i) (by omega)]; exact (s10 i hi).1
    · rw [zw_nc (by decide), zw_nc (by decide), zw_nc (by decide), e (18 + i) (by omega)]; exact (s10 i hi).2.1
    · rw [zw_nc (by decide), zw_nc (by decide), zw_nc (by decide), e (26 + i) (by omega)]; exact (s10 i hi).2.2
theorem zadd_n {l m k : Nat} (h : k ≠ 2) (h1 : k ≠ 13 + T 2) (h2 : k ≠ 18 + T 2) : zadd T l m k = T k := by unfold zadd; rw [if_neg h, if_neg h1, if_neg h2]
theorem zadd_2 {l m : Nat} : zadd T l m 2 = T 2 + 1 := by unfold zadd; rw [if_pos rfl]
theorem zadd_l {l m : Nat} : zadd T l m (13 + T 2) = l := by unfold zadd; rw [if_neg (by omega), if_pos rfl]
theorem zadd_m {l m : Nat} : zadd T l m (18 + T 2) = m := by unfold zadd; rw [if_neg (by omega), if_neg (by omega), if_pos rfl]
theorem zwP.add {l m : Nat} (h : zwP T (T 0)) (h5 : T 2 < 5) (hl : l ≤ 99) (hm : m ≤ 99) : zwP (zadd T l m) (zadd T l m 0) := by
  obtain ⟨h0, h1', hs, h2, hk, h23, hcu, h24, h25, hp⟩ := h
  have e : ∀ j, (j < 13 ∧ j ≠ 2) ∨ 23 ≤ j → zadd T l m j = T j := fun j h => zadd_n (by omega) (by omega) (by omega)
  rw [e 0 (by omega)]
  refine ⟨by rw [e 0 (by omega)]; exact h0, by rw [e 0 (by omega)]; exact h1', by rw [e 0 (by omega), e 1 (by omega)]; exact hs, by rw [zadd_2]; omega, fun i hi => by rw [e (3 + i) (by omega), e (31 + i) (by omega)]; exact hk i hi, by rw [e 23 (by omega)]; exact h23, fun i hi => ?_, by rw [e 24 (by omega)]; exact h24, by rw [e 25 (by omega)]; exact h25, fun i hi => by rw [e (26 + i) (by omega)]; exact hp i hi⟩
  rw [zadd_2] at hi
  by_cases q : i = T 2
  · rw [q, zadd_l, zadd_m]; exact ⟨hl, hm⟩
  · rw [zadd_n (by omega) (by omega) (by omega), zadd_n (by omega) (by omega) (by omega)]; exact hcu i (by omega)
theorem s_addP (hd : 1 ≤ d) {l m : Nat} (hW : zwP T (T 0)) (hS : zPS T (T 0) M) (h5 : T 2 < 5) : ∃ M', (zenv zbt d).2.2 56 [.ref 27, .int (nI l), .int (nI m)] M = some M' ∧ zFr [27, 31, 32, 33] M M' ∧ zPS (zadd T l m) (zadd T l m 0) M' := by
  obtain ⟨d, rfl⟩ : ∃ e, d = e + 1 := ⟨d - 1, by omega⟩
  have hn := hW.1
  have hp := hW.2.2.2.2.2.2.2.2.2
  have e : ∀ j, (j < 13 ∧ j ≠ 2) ∨ 23 ≤ j → zadd T l m j = T j := fun j h => zadd_n (by omega) (by omega) (by omega)
  have hon : zon (zadd T l m) = zon T := by
    unfold zon zgone
    rw [e 0 (by omega), e 25 (by omega), e 26 (by omega), e 27 (by omega), e 28 (by omega), e 29 (by omega), e 30 (by omega)]
  have hair : zair (zadd T l m) = zair T := by
    apply zeqb
    intro i
    rw [zair_bit, zair_bit, e 0 (by omega)]
    by_cases hi : i < T 0
    · rw [e (3 + i) (by omega)]
    · simp [hi]
  obtain ⟨s0, s1, s2, s3, s4, s5, s6, s7, s8, s9, s10⟩ := hS
  refine ⟨zw (zw (zw (zw M 31 (T 2) (nI l)) 32 (T 2) (nI m)) 33 (T 2) 0) 27 2 (nI (T 2 + 1)), ?_, (((zFr.rf.w (by simp)).w (by simp)).w (by simp)).w (by simp), ?_⟩
  · apply c_X5_add
    apply zL_of; rw [e_X5_add_0 _ _ _ (Or.inr rfl), s2, if_neg (show ¬ ((5 : Int32) ≤ nI (T 2)) from nI_ge h5 (by decide)), zck_t (zinN h5 (by decide)), zck_t (zinN h5 (by decide)), zck_t (zinN h5 (by decide)), zcN (by omega), nI_1]; rfl
  · unfold zPS
    rw [e 0 (by omega), e 1 (by omega), e 23 (by omega), e 24 (by omega), e 25 (by omega), hon, hair, zadd_2]
    refine ⟨?_, ?_, zw_eq _ _ _ _, ?_, ?_, ?_, ?_, ?_, fun i hi => ?_, fun i hi => ⟨?_, ?_⟩, fun i hi => ⟨?_, ?_, ?_⟩⟩
    · rw [zw_nk (by decide), zw_nc (by decide), zw_nc (by decide), zw_nc (by decide)]; exact s0
    · rw [zw_nk (by decide), zw_nc (by decide), zw_nc (by decide), zw_nc (by decide)]; exact s1
    · rw [zw_nk (by decide), zw_nc (by decide), zw_nc (by decide), zw_nc (by decide)]; exact s3
    · rw [zw_nk (by decide), zw_nc (by decide), zw_nc (by decide), zw_nc (by decide)]; exact s4
    · rw [zw_nk (by decide), zw_nc (by decide), zw_nc (by decide), zw_nc (by decide)]; exact s5
    · rw [zw_nk (by decide), zw_nc (by decide), zw_nc (by decide), zw_nc (by decide)]; exact s6
    · rw [zw_nk (by decide), zw_nc (by decide), zw_nc (by decide), zw_nc (by decide)]; exact s7
    · rw [zw_nc (by decide), zw_nc (by decide), zw_nc (by decide), zw_nc (by decide)]; exact s8 i hi
    · rw [zw_nc (by decide), zw_nc (by decide), zw_nc (by decide), zw_nc (by decide), e (3 + i) (by omega)]; exact (s9 i hi).1
    · rw [zw_nc (by decide), zw_nc (by decide), zw_nc (by decide), zw_nc (by decide), e (31 + i) (by omega)]; exact (s9 i hi).2
    · rw [zw_nc (by decide), zw_nc (by decide), zw_nc (by decide)]
      by_cases q : i = T 2
      · rw [q, zw_eq, zadd_l]
      · rw [zw_nk q, zadd_n (by omega) (by omega) (by omega)]; exact (s10 i (by omega)).1
    · rw [zw_nc (by decide), zw_nc (by decide)]
      by_cases q : i = T 2
      · rw [q, zw_eq, zadd_m]
      · rw [zw_nk q, zw_nc (by decide), zadd_n (by omega) (by omega) (by omega)]; exact (s10 i (by omega)).2.1
    · rw [zw_nc (by decide), e (26 + i) (by omega)]
      by_cases q : i = T 2
      · rw [q, zw_eq, hp (T 2) h5]; rfl
      · rw [zw_nk q, zw_nc (by decide), zw_nc (by decide)]; exact (s10 i (by omega)).2.2
end ZX55

/-! A sheet as the class reads it: what is read, in all -/
def zbd {α β : Type} (x : (Nat × Nat) ⊕ α) (f : α → (Nat × Nat) ⊕ β) : (Nat × Nat) ⊕ β := match x with
  | .inl e => .inl e
  | .inr a => f a
def zlaw (B : Nat → Nat) : (Nat × Nat) ⊕ (Nat × Nat × Nat × Nat) := zbd (zpT B 119 0) fun q1 => zbd (zpN B 1 6 q1) fun w => zbd (zpT B 44 w.2) fun q2 => zbd (zpN B 1 (min 6 (10 / w.1)) q2) fun h => zbd (zpT B 44 h.2) fun q3 => zbd (zpN B 0 9 q3) fun o => zbd (zpT B 59 o.2) fun q4 => .inr (w.1, h.1, o.1, q4)
def zkb (x : Nat) : Nat := if x = 111 then 1 else if x = 117 then 2 else if x = 100 then 3 else if x = 97 then 4 else if x = 101 then 5 else 0
def zpS (B : Nat → Nat) : Nat → Nat → (Nat → Nat) → Nat → (Nat × Nat) ⊕ ((Nat → Nat) × Nat)
  | 0, _, T, q => .inr (T, q)
  | r + 1, c, T, q => if zkb (B q) = 0 then .inl (1, q) else zbd (zpN B 0 9 (q + 1)) fun v => zbd (zpT B 59 v.2) fun q3 => zpS B r (c + 1) (zup2 T c (zkb (B q)) v.1) q3
def zpE (B : Nat → Nat) (s : (Nat → Nat) × Nat) : (Nat × Nat) ⊕ ((Nat → Nat) × Nat) := if zkb (B s.2) = 0 then .inr s else .inl (3, s.2)
def zpC (B : Nat → Nat) (n : Nat) : Nat → (Nat → Nat) → Nat → (Nat × Nat) ⊕ (Nat → Nat)
  | 0, T, q => if B q = 110 then .inl (3, q) else if n ≤ q then .inr T else .inl (1, q)
  | r + 1, T, q => if B q = 110 then zbd (zpN B 0 99 (q + 1)) fun l => zbd (zpT B 44 l.2) fun q2 => zbd (zpN B l.1 99 q2) fun m => zbd (zpT B 59 m.2) fun q3 => zpC B n r (zadd T l.1 m.1) q3 else if n ≤ q then .inr T else .inl (1, q)
def zpX (B : Nat → Nat) (n : Nat) : (Nat × Nat) ⊕ (Nat → Nat) := zbd (zlaw B) fun r => zbd (zbd (zpS B (r.1 * r.2.1) 0 (zT0 r.1 r.2.1 r.2.2.1) r.2.2.2) (zpE B)) fun s => zpC B n 5 s.1 s.2
def zRdC : List Nat := [18, 27, 28, 29, 30, 31, 32, 33]
def zOut {α : Type} (M0 : ZM) (x : (Nat × Nat) ⊕ α) (ok : α → ZM → Prop) (r : Int32) (M' : ZM) : Prop := match x with
  | .inl e => r = 0 ∧ zFr zRdC M0 M' ∧ M'.1 18 6 = nI e.1 ∧ M'.1 18 3 = nI e.2
  | .inr a => r = 1 ∧ zFr zRdC M0 M' ∧ M'.1 18 6 = M0.1 18 6 ∧ ok a M'
section ZX56
variable {d : Nat} {M M0 Mk : ZM} {B : Nat → Nat} {n : Nat}
theorem zOut_f {α : Type} {ok : α → ZM → Prop} {e : Nat × Nat} {q : Nat} (hf : zFr zRdC M0 Mk) (hR : zRS B n Mk q) (he : e.2 = q) : zOut M0 (Sum.inl e : (Nat × Nat) ⊕ α) ok 0 (zw Mk 18 6 (nI e.1)) := ⟨rfl, hf.w (by decide), zw_eq _ _ _ _, by rw [zw_nk (by decide), he]; exact hR.2.2.1⟩
theorem zOut_t {α : Type} {ok : α → ZM → Prop} {a : α} (hf : zFr zRdC M0 Mk) (h6 : Mk.1 18 6 = M0.1 18 6) (h : ok a Mk) : zOut M0 (Sum.inr a : (Nat × Nat) ⊕ α) ok 1 Mk := ⟨rfl, hf, h6, h⟩
theorem zRS.fr {q : Nat} {cs : List Nat} (h : zRS B n M q) (hf : zFr cs M Mk) (h1 : 18 ∉ cs) (h2 : 19 ∉ cs) : zRS B n Mk q := by
  unfold zRS zTp at h ⊢
  rw [(hf 18 h1).1, (hf 19 h2).1]
  exact h
theorem zm1lt : (-1 : Int32) < 1 := by decide
theorem zm1l0 : (-1 : Int32) < 0 := by decide
theorem s_readLaw (hd : 5 ≤ d) (hB : zBy B n) (hR : zRS B n M 0) : ∃ r M', (zenv zbt d).1 40 [.ref 18, .ref 27] M = some (r, M') ∧ zOut M (zlaw B) (fun v M' => zRS B n M' v.2.2.2 ∧ zwP (zT0 v.1 v.2.1 v.2.2.1) 0 ∧ zPS (zT0 v.1 v.2.1 v.2.2.1) 0 M') r M' := by
  obtain ⟨d, rfl⟩ : ∃ e, d = e + 1 := ⟨d - 1, by omega⟩
  suffices h : zLE (zenv zbt d) tb2_X3_readLaw cu_X3_readLaw 0 [some (.ref 18), some (.ref 27), none, none, none] [] M (zOut M (zlaw B) (fun v M' => zRS B n M' v.2.2.2 ∧ zwP (zT0 v.1 v.2.1 v.2.2.1) 0 ∧ zPS (zT0 v.1 v.2.1 v.2.2.1) 0 M')) by
    obtain ⟨r, M', h1, h2⟩ := h
    exact ⟨r, M', c_X3_readLaw h1, h2⟩
  apply zLE_of
  rw [e2_X3_readLaw_0 _ _ _ (Or.inr rfl)]
  unfold zlaw
  obtain ⟨a1, b1⟩ := s_takesC (d := d) (by omega) hB (s := 119) (by decide) hR
  cases h1 : zpT B 119 0 with
  | inl e =>
    obtain ⟨x1, x2⟩ := a1 e h1
    rw [show (119 : Int32) = nI 119 from rfl, x1, Option.bind_some]
    dsimp only
    rw [if_pos rfl]
    exact zPE_ret (zOut_f zFr.rf hR x2)
  | inr q1 =>
    obtain ⟨M1, e1, f1, g1, R1⟩ := b1 q1 h1
    rw [show (119 : Int32) = nI 119 from rfl, e1, Option.bind_some]
    dsimp only
    rw [if_neg zn10]
    have F1 : zFr zRdC M M1 := f1.mono (by decide)
    obtain ⟨a2, b2⟩ := s_numC (d := d) (lo := 1) (hi := 6) (by omega) hB (by decide) (by decide) R1
    show zPE _ _ _ _ (zOut M (zbd (zpN B 1 6 q1) _) _)
    cases h2 : zpN B 1 6 q1 with
    | inl e =>
      obtain ⟨x1, x2⟩ := a2 e h2
      rw [show (1 : Int32) = nI 1 from rfl, show (6 : Int32) = nI 6 from rfl, x1, Option.bind_some]
      dsimp only
      rw [if_pos (show (-1 : Int32) < nI 1 from zm1lt)]
      exact zPE_ret (zOut_f F1 R1 x2)
    | inr w =>
      obtain ⟨⟨w1, w2, w3⟩, M2, e2, f2, g2, R2⟩ := b2 w h2
      rw [show (1 : Int32) = nI 1 from rfl, show (6 : Int32) = nI 6 from rfl, e2, Option.bind_some]
      dsimp only
      rw [if_neg (nI_nlt w1 (by omega))]
      have F2 : zFr zRdC M M2 := F1.trans (f2.mono (by decide))
      obtain ⟨a3, b3⟩ := s_takesC (d := d) (by omega) hB (s := 44) (by decide) R2
      show zPE _ _ _ _ (zOut M (zbd (zpT B 44 w.2) _) _)
      cases h3 : zpT B 44 w.2 with
      | inl e =>
        obtain ⟨x1, x2⟩ := a3 e h3
        rw [show (44 : Int32) = nI 44 from rfl, x1, Option.bind_some]
        dsimp only
        rw [if_pos rfl]
        exact zPE_ret (zOut_f F2 R2 x2)
      | inr q2 =>
        obtain ⟨M3, e3, f3, g3, R3⟩ := b3 q2 h3
        have hmin : zmin (nI 6) (10 / nI w.1) = nI (min 6 (10 / w.1)) := by
          rw [show (10 : Int32) / nI w.1 = nI (10 / w.1) from pk_div (a := 10) (by decide) (by omega) (by omega), zminN (by decide) (by have := Nat.div_le_self 10 w.1; omega)]
        rw [show (44 : Int32) = nI 44 from rfl, e3, Option.bind_some]
        dsimp only
        rw [if_neg zn10, zck_t (by rw [decide_eq_false (nI_ne0 (by omega) (by omega))]; rfl), hmin]
        have F3 : zFr zRdC M M3 := F2.trans (f3.mono (by decide))
        obtain ⟨a4, b4⟩ := s_numC (d := d) (lo := 1) (hi := min 6 (10 / w.1)) (by omega) hB (by decide) (by omega) R3
        show zPE _ _ _ _ (zOut M (zbd (zpN B 1 (min 6 (10 / w.1)) q2) _) _)
        cases h4 : zpN B 1 (min 6 (10 / w.1)) q2 with
        | inl e =>
          obtain ⟨x1, x2⟩ := a4 e h4
          rw [x1, Option.bind_some]
          dsimp only
          rw [if_pos (show (-1 : Int32) < nI 1 from zm1lt)]
          exact zPE_ret (zOut_f F3 R3 x2)
        | inr h =>
          obtain ⟨⟨k1, k2, k3⟩, M4, e4, f4, g4, R4⟩ := b4 h h4
          rw [e4, Option.bind_some]
          dsimp only
          rw [if_neg (nI_nlt k1 (by omega))]
          have F4 : zFr zRdC M M4 := F3.trans (f4.mono (by decide))
          obtain ⟨a5, b5⟩ := s_takesC (d := d) (by omega) hB (s := 44) (by decide) R4
          show zPE _ _ _ _ (zOut M (zbd (zpT B 44 h.2) _) _)
          cases h5 : zpT B 44 h.2 with
          | inl e =>
            obtain ⟨x1, x2⟩ := a5 e h5
            rw [x1, Option.bind_some]
            dsimp only
            rw [if_pos rfl]
            exact zPE_ret (zOut_f F4 R4 x2)
          | inr q3 =>
            obtain ⟨M5, e5, f5, g5, R5⟩ := b5 q3 h5
            rw [e5, Option.bind_some]
            dsimp only
            rw [if_neg zn10]
            have F5 : zFr zRdC M M5 := F4.trans (f5.mono (by decide))
            obtain ⟨a6, b6⟩ := s_numC (d := d) (lo := 0) (hi := 9) (by omega) hB (by decide) (by decide) R5
            show zPE _ _ _ _ (zOut M (zbd (zpN B 0 9 q3) _) _)
            cases h6 : zpN B 0 9 q3 with
            | inl e =>
              obtain ⟨x1, x2⟩ := a6 e h6
              rw [show (0 : Int32) = nI 0 from rfl, show (9 : Int32) = nI 9 from rfl, x1, Option.bind_some]
              dsimp only
              rw [if_pos (show (-1 : Int32) < nI 0 from zm1l0)]
              exact zPE_ret (zOut_f F5 R5 x2)
            | inr o =>
              obtain ⟨⟨o1, o2, o3⟩, M6, e6, f6, g6, R6⟩ := b6 o h6
              rw [show (0 : Int32) = nI 0 from rfl, show (9 : Int32) = nI 9 from rfl, e6, Option.bind_some]
              dsimp only
              rw [if_neg (nI_nlt (Nat.zero_le _) (by omega))]
              have F6 : zFr zRdC M M6 := F5.trans (f6.mono (by decide))
              obtain ⟨a7, b7⟩ := s_takesC (d := d) (by omega) hB (s := 59) (by decide) R6
              show zPE _ _ _ _ (zOut M (zbd (zpT B 59 o.2) _) _)
              cases h7 : zpT B 59 o.2 with
              | inl e =>
                obtain ⟨x1, x2⟩ := a7 e h7
                rw [show (59 : Int32) = nI 59 from rfl, x1, Option.bind_some]
                dsimp only
                rw [if_pos zn0.symm]
                exact zPE_ret (zOut_f F6 R6 x2)
              | inr q4 =>
                obtain ⟨M7, e7, f7, g7, R7⟩ := b7 q4 h7
                rw [show (59 : Int32) = nI 59 from rfl, e7, Option.bind_some]
                dsimp only
                have F7 : zFr zRdC M M7 := F6.trans (f7.mono (by decide))
                have hP : zwP (zT0 w.1 h.1 o.1) 0 := zwP.t0 w1 w2 k1 k2 o2
                obtain ⟨M8, e8, f8, p8⟩ := s_beginS (d := d) (M := M7) (by omega) hP w1 w2
                rw [if_neg (show ¬ ((1 : Int32) = nI 0) by decide), e8, Option.bind_some]
                refine zPE_ret (zOut_t (F7.trans (f8.mono (by decide))) ?_ ⟨R7.fr f8 (by decide) (by decide), hP, p8⟩)
                rw [(f8 18 (by decide)).1, g7, g6, g5, g4, g3, g2, g1]
theorem zkb_lt (x : Nat) : zkb x ≤ 5 := by
  unfold zkb
  repeat' split
  all_goals omega
theorem zkb_l {x : Nat} (h : zkb x ≠ 0) : zlt x = true := by
  unfold zkb at h
  rw [zlt_iff]
  by_cases h1 : x = 111
  · omega
  rw [if_neg h1] at h
  by_cases h2 : x = 117
  · omega
  rw [if_neg h2] at h
  by_cases h3 : x = 100
  · omega
  rw [if_neg h3] at h
  by_cases h4 : x = 97
  · omega
  rw [if_neg h4] at h
  by_cases h5 : x = 101
  · omega
  rw [if_neg h5] at h
  exact absurd rfl h
theorem s_kindOf (hd : 1 ≤ d) (hB : zBy B n) {q : Nat} (hR : zRS B n M q) : (zenv zbt d).1 43 [.ref 18] M = some (nI (zkb (B q)), M) := by
  obtain ⟨d, rfl⟩ : ∃ e, d = e + 1 := ⟨d - 1, by omega⟩
  have r5 := hR.2.2.2.2.1
  have t97 : ztk B n q = (97 : Int32) ↔ B q = 97 := ztk_s hB (s := 97) (by decide)
  have t100 : ztk B n q = (100 : Int32) ↔ B q = 100 := ztk_s hB (s := 100) (by decide)
  have t101 : ztk B n q = (101 : Int32) ↔ B q = 101 := ztk_s hB (s := 101) (by decide)
  have t111 : ztk B n q = (111 : Int32) ↔ B q = 111 := ztk_s hB (s := 111) (by decide)
  have t117 : ztk B n q = (117 : Int32) ↔ B q = 117 := ztk_s hB (s := 117) (by decide)
  apply c_X3_kindOfSort
  apply zL_of; rw [e_X3_kindOfSort_0, r5]
  unfold zkb
  by_cases h1 : B q = 97
  · rw [if_pos (t97.mpr h1), if_neg (by omega), if_neg (by omega), if_neg (by omega), if_pos h1]; rfl
  rw [if_neg (fun g => h1 (t97.mp g))]
  by_cases h2 : B q = 100
  · rw [if_pos (t100.mpr h2), if_neg (by omega), if_neg (by omega), if_pos h2]; rfl
  rw [if_neg (fun g => h2 (t100.mp g))]
  by_cases h3 : B q = 101
  · rw [if_pos (t101.mpr h3), if_neg (by omega), if_neg (by omega), if_neg (by omega), if_neg (by omega), if_pos h3]; rfl
  rw [if_neg (fun g => h3 (t101.mp g))]
  by_cases h4 : B q = 111
  · rw [if_pos (t111.mpr h4), if_pos h4]; rfl
  rw [if_neg (fun g => h4 (t111.mp g))]
  by_cases h5 : B q = 117
  · rw [if_pos (t117.mpr h5), if_neg h4, if_pos h5]; rfl
  rw [if_neg (fun g => h5 (t117.mp g)), if_neg h4, if_neg h5, if_neg h2, if_neg h1, if_neg h3]; rfl
/-- behind a letter -/
theorem s_stepL (hd : 3 ≤ d) (hB : zBy B n) {q : Nat} (hR : zRS B n M q) (hl : zlt (B q) = true) : ∃ M', (zenv zbt d).2.2 47 [.ref 18] M = some M' ∧ zFr [18] M M' ∧ M'.1 18 6 = M.1 18 6 ∧ zRS B n M' (q + 1) := by
  have h1 := zlt_iff.mp hl
  obtain ⟨r1, r2, r3, r4, r5, r6⟩ := hR
  have hqn : q < n := Nat.lt_of_not_le fun g => by rw [hB.2.2 q g] at h1; omega
  have hz : zdn B q = 0 := (zdn_0 hB).mpr (by
    cases g : zdg (B q)
    · rfl
    · have := zdg_iff.mp g
      omega)
  have e4 : zte B n q = q + 1 := by unfold zte; rw [if_neg (by omega), if_pos hz]
  rw [e4] at r4
  exact s_step hd hB (by omega) r1 r4
theorem l_stamps (hd : 4 ≤ d) (hB : zBy B n) : ∀ r c T q Mk, c + r = T 0 → T 2 = 0 → zRS B n Mk q → zwP T c → zPS T c Mk → zFr zRdC M Mk → Mk.1 18 6 = M.1 18 6 → zLE (zenv zbt d) tb_X3_readStamps cu_X3_readStamps 2 [some (.ref 18), some (.ref 27), some (.int (nI c)), none, none] [] Mk (zOut M (zbd (zpS B r c T q) (zpE B)) (fun s M' => zRS B n M' s.2 ∧ s.1 2 = 0 ∧ zwP s.1 (s.1 0) ∧ zPS s.1 (s.1 0) M')) := by
  intro r
  induction r with
  | zero =>
    intro c T q Mk hc h2 hR hW hP hf h6
    have hN := hW.1
    have ec : c = T 0 := by omega
    subst ec
    show zLE _ _ _ _ _ _ _ (zOut M (zpE B (T, q)) _)
    apply zLE_of
    rw [e_X3_readStamps_2 _ _ _ (Or.inr rfl), hP.2.1, if_pos (nI_le (Nat.le_refl _) (by omega)), s_kindOf (by omega) hB hR, Option.bind_some]
    dsimp only
    unfold zpE
    have hk := zkb_lt (B q)
    by_cases h0 : zkb (B q) = 0
    · rw [if_pos (show nI (zkb (B q)) = 0 by rw [h0]; rfl), if_pos h0]
      exact zPE_ret (zOut_t hf h6 ⟨hR, h2, hW, hP⟩)
    · rw [if_neg (nI_ne0 (by omega) (by omega)), if_neg h0, s_refuse (by omega), Option.bind_some]
      dsimp only
      rw [if_pos rfl]
      exact zPE_ret (zOut_f (e := (3, q)) hf hR rfl)
  | succ r ih =>
    intro c T q Mk hc h2 hR hW hP hf h6
    have hN := hW.1
    have hk := zkb_lt (B q)
    apply zLE_of
    rw [e_X3_readStamps_2 _ _ _ (Or.inr rfl), hP.2.1, if_neg (nI_ge (by omega) (by omega)), s_kindOf (by omega) hB hR, Option.bind_some]
    dsimp only
    rw [zpS]
    by_cases h0 : zkb (B q) = 0
    · rw [if_pos (show nI (zkb (B q)) = 0 by rw [h0]; rfl), if_pos h0, s_refuse (by omega), Option.bind_some]
      exact zPE_ret (zOut_f (e := (1, q)) hf hR rfl)
    rw [if_neg (nI_ne0 (by omega) (by omega)), if_neg h0]
    obtain ⟨M1, e1, f1, g1, R1⟩ := s_stepL (d := d) (by omega) hB hR (zkb_l h0)
    rw [e1, Option.bind_some]
    have F1 : zFr zRdC M M1 := hf.trans (f1.mono (by decide))
    obtain ⟨a2, b2⟩ := s_numC (d := d) (lo := 0) (hi := 9) (by omega) hB (by decide) (by decide) R1
    cases h2' : zpN B 0 9 (q + 1) with
    | inl e =>
      obtain ⟨x1, x2⟩ := a2 e h2'
      rw [show (0 : Int32) = nI 0 from rfl, show (9 : Int32) = nI 9 from rfl, x1, Option.bind_some]
      dsimp only
      rw [if_pos (show (-1 : Int32) < nI 0 from zm1l0)]
      exact zPE_ret (zOut_f F1 R1 x2)
    | inr v =>
      obtain ⟨⟨w1, w2, w3⟩, M2, e2, f2, g2, R2⟩ := b2 v h2'
      rw [show (0 : Int32) = nI 0 from rfl, show (9 : Int32) = nI 9 from rfl, e2, Option.bind_some]
      dsimp only
      rw [if_neg (nI_nlt (Nat.zero_le _) (by omega))]
      have F2 : zFr zRdC M M2 := F1.trans (f2.mono (by decide))
      obtain ⟨a3, b3⟩ := s_takesC (d := d) (by omega) hB (s := 59) (by decide) R2
      show zPE _ _ _ _ (zOut M (zbd (zbd (zpT B 59 v.2) _) _) _)
      cases h3 : zpT B 59 v.2 with
      | inl e =>
        obtain ⟨x1, x2⟩ := a3 e h3
        rw [show (59 : Int32) = nI 59 from rfl, x1, Option.bind_some]
        dsimp only
        rw [if_pos zn0.symm]
        exact zPE_ret (zOut_f F2 R2 x2)
      | inr q3 =>
        obtain ⟨M3, e3, f3, g3, R3⟩ := b3 q3 h3
        have F3 : zFr zRdC M M3 := F2.trans (f3.mono (by decide))
        have P3 : zPS T c M3 := ((hP.fr f1).fr f2).fr f3
        obtain ⟨M4, e4, f4, p4⟩ := s_putP (d := d) (k := zkb (B q)) (v := v.1) (by omega) hW P3 (show c < T 0 by omega) (by omega)
        rw [show (59 : Int32) = nI 59 from rfl, e3, Option.bind_some]
        dsimp only
        rw [if_neg (show ¬ ((1 : Int32) = nI 0) by decide), e4, Option.bind_some, nI_1]
        apply zPE_go
        have e0 : zup2 T c (zkb (B q)) v.1 0 = T 0 := zup2_o (by omega) (by omega)
        refine ih (c + 1) _ q3 M4 (by rw [e0]; omega) (by rw [zup2_o (by omega) (by omega)]; exact h2) (R3.fr f4 (by decide) (by decide)) (hW.up (by omega) (by omega) hk w2) p4 (F3.trans (f4.mono (by decide))) ?_
        rw [(f4 18 (by decide)).1, g3, g2, g1, h6]
theorem s_readStamps (hd : 5 ≤ d) (hB : zBy B n) {T : Nat → Nat} {q : Nat} (h2 : T 2 = 0) (hR : zRS B n M q) (hW : zwP T 0) (hP : zPS T 0 M) : ∃ r M', (zenv zbt d).1 41 [.ref 18, .ref 27] M = some (r, M') ∧ zOut M (zbd (zpS B (T 0) 0 T q) (zpE B)) (fun s M' => zRS B n M' s.2 ∧ s.1 2 = 0 ∧ zwP s.1 (s.1 0) ∧ zPS s.1 (s.1 0) M') r M' := by
  obtain ⟨d, rfl⟩ : ∃ e, d = e + 1 := ⟨d - 1, by omega⟩
  obtain ⟨r, M', h1, h2⟩ := l_stamps (d := d) (by omega) hB (T 0) 0 T q M (by omega) h2 hR hW hP zFr.rf rfl
  refine ⟨r, M', c_X3_readStamps ?_, h2⟩
  apply zL_of; rw [e_X3_readStamps_0 _ _ _ (Or.inr rfl)]
  exact zPo_go h1
theorem ztk_e (hB : zBy B n) {q : Nat} : ztk B n q = -1 ↔ n ≤ q := by
  unfold ztk
  by_cases h : n ≤ q
  · rw [if_pos h]; exact ⟨fun _ => h, fun _ => rfl⟩
  · rw [if_neg h]
    have hb := hB.2.1 q (by omega)
    refine ⟨fun g => ?_, fun g => absurd g h⟩
    exfalso
    split at g
    · split at g
      · have h2 := congrArg Int32.toInt g
        rw [nI_toInt (by omega), show (-1 : Int32).toInt = -1 by decide] at h2
        omega
      · exact absurd g (by decide)
    · split at g
      · exact absurd g (by decide)
      · exact absurd g (by decide)
theorem l_custs (hd : 4 ≤ d) (hB : zBy B n) : ∀ r T q Mk, T 2 + r = 5 → zRS B n Mk q → zwP T (T 0) → zPS T (T 0) Mk → zFr zRdC M Mk → Mk.1 18 6 = M.1 18 6 → zLE (zenv zbt d) tb_X3_readCustomers cu_X3_readCustomers 2 [some (.ref 18), some (.ref 27), some (.int (nI (T 2))), none, none] [] Mk (zOut M (zpC B n r T q) (fun s M' => zwP s (s 0) ∧ zPS s (s 0) M')) := by
  have n110 : (110 : Int32) = nI 110 := rfl
  intro r
  induction r with
  | zero =>
    intro T q Mk hc hR hW hP hf h6
    apply zLE_of
    rw [e_X3_readCustomers_2 _ _ _ (Or.inr rfl), if_pos (show (5 : Int32) ≤ nI (T 2) from nI_le (a := 5) (by omega) (by omega)), hR.2.2.2.2.1, zpC]
    by_cases h1 : B q = 110
    · rw [if_pos (show ztk B n q = 110 from (ztk_s hB (s := 110) (by decide)).mpr h1), if_pos h1, s_refuse (by omega), Option.bind_some]
      exact zPE_ret (zOut_f (e := (3, q)) hf hR rfl)
    rw [if_neg (show ¬ (ztk B n q = (110 : Int32)) from fun g => h1 ((ztk_s hB (s := 110) (by decide)).mp g)), if_neg h1]
    by_cases h2 : n ≤ q
    · rw [if_pos ((ztk_e hB).mpr h2), if_pos h2]
      exact zPE_ret (zOut_t hf h6 ⟨hW, hP⟩)
    · rw [if_neg (fun g => h2 ((ztk_e hB).mp g)), if_neg h2, s_refuse (by omega), Option.bind_some]
      dsimp only
      rw [if_pos rfl]
      exact zPE_ret (zOut_f (e := (1, q)) hf hR rfl)
  | succ r ih =>
    intro T q Mk hc hR hW hP hf h6
    apply zLE_of
    rw [e_X3_readCustomers_2 _ _ _ (Or.inr rfl), if_neg (show ¬ ((5 : Int32) ≤ nI (T 2)) from nI_ge (b := 5) (by omega) (by decide)), hR.2.2.2.2.1, zpC]
    by_cases h1 : B q = 110
    · rw [if_pos (show ztk B n q = 110 from (ztk_s hB (s := 110) (by decide)).mpr h1), if_pos h1]
      obtain ⟨M1, e1, f1, g1, R1⟩ := s_stepL (d := d) (by omega) hB hR (by rw [h1]; decide)
      rw [e1, Option.bind_some]
      have F1 : zFr zRdC M M1 := hf.trans (f1.mono (by decide))
      obtain ⟨a2, b2⟩ := s_numC (d := d) (lo := 0) (hi := 99) (by omega) hB (by decide) (by decide) R1
      cases h2 : zpN B 0 99 (q + 1) with
      | inl e =>
        obtain ⟨x1, x2⟩ := a2 e h2
        rw [show (0 : Int32) = nI 0 from rfl, show (99 : Int32) = nI 99 from rfl, x1, Option.bind_some]
        dsimp only
        rw [if_pos (show (-1 : Int32) < nI 0 from zm1l0)]
        exact zPE_ret (zOut_f F1 R1 x2)
      | inr l =>
        obtain ⟨⟨w1, w2, w3⟩, M2, e2, f2, g2, R2⟩ := b2 l h2
        rw [show (0 : Int32) = nI 0 from rfl, show (99 : Int32) = nI 99 from rfl, e2, Option.bind_some]
        dsimp only
        rw [if_neg (nI_nlt (Nat.zero_le _) (by omega))]
        have F2 : zFr zRdC M M2 := F1.trans (f2.mono (by decide))
        obtain ⟨a3, b3⟩ := s_takesC (d := d) (by omega) hB (s := 44) (by decide) R2
        show zPE _ _ _ _ (zOut M (zbd (zpT B 44 l.2) _) _)
        cases h3 : zpT B 44 l.2 with
        | inl e =>
          obtain ⟨x1, x2⟩ := a3 e h3
          rw [show (44 : Int32) = nI 44 from rfl, x1, Option.bind_some]
          dsimp only
          rw [if_pos zn0.symm]
          exact zPE_ret (zOut_f F2 R2 x2)
        | inr q2 =>
          obtain ⟨M3, e3, f3, g3, R3⟩ := b3 q2 h3
          rw [show (44 : Int32) = nI 44 from rfl, e3, Option.bind_some]
          dsimp only
          rw [if_neg (show ¬ ((1 : Int32) = nI 0) by decide)]
          have F3 : zFr zRdC M M3 := F2.trans (f3.mono (by decide))
          obtain ⟨a4, b4⟩ := s_numC (d := d) (lo := l.1) (hi := 99) (by omega) hB (by omega) (by decide) R3
          show zPE _ _ _ _ (zOut M (zbd (zpN B l.1 99 q2) _) _)
          cases h4 : zpN B l.1 99 q2 with
          | inl e =>
            obtain ⟨x1, x2⟩ := a4 e h4
            rw [x1, Option.bind_some]
            dsimp only
            rw [if_pos (show (-1 : Int32) < nI 0 from zm1l0)]
            exact zPE_ret (zOut_f F3 R3 x2)
          | inr m =>
            obtain ⟨⟨y1, y2, y3⟩, M4, e4, f4, g4, R4⟩ := b4 m h4
            rw [e4, Option.bind_some]
            dsimp only
            rw [if_neg (nI_nlt (Nat.zero_le _) (by omega))]
            have F4 : zFr zRdC M M4 := F3.trans (f4.mono (by decide))
            obtain ⟨a5, b5⟩ := s_takesC (d := d) (by omega) hB (s := 59) (by decide) R4
            show zPE _ _ _ _ (zOut M (zbd (zpT B 59 m.2) _) _)
            cases h5 : zpT B 59 m.2 with
            | inl e =>
              obtain ⟨x1, x2⟩ := a5 e h5
              rw [show (59 : Int32) = nI 59 from rfl, x1, Option.bind_some]
              dsimp only
              rw [if_pos zn0.symm]
              exact zPE_ret (zOut_f F4 R4 x2)
            | inr q3 =>
              obtain ⟨M5, e5, f5, g5, R5⟩ := b5 q3 h5
              have F5 : zFr zRdC M M5 := F4.trans (f5.mono (by decide))
              have P5 : zPS T (T 0) M5 := ((((hP.fr f1).fr f2).fr f3).fr f4).fr f5
              obtain ⟨M6, e6, f6, p6⟩ := s_addP (d := d) (l := l.1) (m := m.1) (by omega) hW P5 (by omega)
              rw [show (59 : Int32) = nI 59 from rfl, e5, Option.bind_some]
              dsimp only
              rw [if_neg (show ¬ ((1 : Int32) = nI 0) by decide), e6, Option.bind_some, nI_1]
              apply zPE_go
              have := ih (zadd T l.1 m.1) q3 M6 (by rw [zadd_2]; omega) (R5.fr f6 (by decide) (by decide)) (hW.add (by omega) w2 y2) p6 (F5.trans (f6.mono (by decide))) (by rw [(f6 18 (by decide)).1, g5, g4, g3, g2, g1, h6])
              rw [zadd_2] at this
              exact this
    rw [if_neg (show ¬ (ztk B n q = (110 : Int32)) from fun g => h1 ((ztk_s hB (s := 110) (by decide)).mp g)), if_neg h1]
    rw [if_neg (show ¬ (ztk B n q = (110 : Int32)) from fun g => h1 ((ztk_s hB (s := 110) (by decide)).mp g))]
    by_cases h2 : n ≤ q
    · rw [if_pos ((ztk_e hB).mpr h2), if_pos h2]
      exact zPE_ret (zOut_t hf h6 ⟨hW, hP⟩)
    · rw [if_neg (fun g => h2 ((ztk_e hB).mp g)), if_neg h2, s_refuse (by omega), Option.bind_some]
      dsimp only
      rw [if_pos rfl]
      exact zPE_ret (zOut_f (e := (1, q)) hf hR rfl)
theorem s_readCusts (hd : 5 ≤ d) (hB : zBy B n) {T : Nat → Nat} {q : Nat} (h2 : T 2 = 0) (hR : zRS B n M q) (hW : zwP T (T 0)) (hP : zPS T (T 0) M) : ∃ r M', (zenv zbt d).1 42 [.ref 18, .ref 27] M = some (r, M') ∧ zOut M (zpC B n 5 T q) (fun s M' => zwP s (s 0) ∧ zPS s (s 0) M') r M' := by
  obtain ⟨d, rfl⟩ : ∃ e, d = e + 1 := ⟨d - 1, by omega⟩
  obtain ⟨r, M', h1, h3⟩ := l_custs (d := d) (by omega) hB 5 T q M (by omega) hR hW hP zFr.rf rfl
  rw [h2] at h1
  refine ⟨r, M', c_X3_readCustomers ?_, h3⟩
  apply zL_of; rw [e_X3_readCustomers_0 _ _ _ (Or.inr rfl)]
  exact zPo_go h1
/-- what stands behind a reading -/
def zRead (M0 : ZM) (x : (Nat × Nat) ⊕ (Nat → Nat)) (r : Int32) (M' : ZM) : Prop := match x with
  | .inl e => r = 0 ∧ zFr zRdC M0 M' ∧ M'.1 18 1 = 0 ∧ M'.1 18 6 = nI e.1 ∧ M'.1 18 3 = nI e.2
  | .inr T => r = 1 ∧ zFr zRdC M0 M' ∧ M'.1 18 1 = 0 ∧ M'.1 18 6 = M0.1 18 6 ∧ zwf T ∧ 1 ≤ T 0 ∧ T 24 = 0 ∧ zSheet T 27 M'
theorem s_read (hd : 6 ≤ d) (hB : zBy B n) (hT : zTp B n M) : ∃ r M', (zenv zbt d).1 39 [.ref 18, .ref 27] M = some (r, M') ∧ zRead M (zpX B n) r M' := by
  obtain ⟨d, rfl⟩ : ∃ e, d = e + 1 := ⟨d - 1, by omega⟩
  suffices h : zLE (zenv zbt d) tb_X3_read cu_X3_read 0 [some (.ref 18), some (.ref 27), none] [] M (zRead M (zpX B n)) by
    obtain ⟨r, M', h1, h2⟩ := h
    exact ⟨r, M', c_X3_read h1, h2⟩
  apply zLE_of
  obtain ⟨M1, e1, f1, g1, R1⟩ := s_step (d := d) (M := zw M 18 2 0) (q := 0) (by omega) hB (Nat.zero_le _) ⟨by rw [zw_nk (by decide)]; exact hT.1, fun i hi => by rw [zw_nc (by decide)]; exact hT.2 i hi⟩ (zw_eq _ _ _ _)
  rw [zw_nk (by decide)] at g1
  have F1 : zFr zRdC M M1 := (zFr.rf.w (by decide)).trans (f1.mono (by decide))
  rw [e_X3_read_0 _ _ _ (Or.inr rfl), e1, Option.bind_some]
  obtain ⟨r2, M2, e2, o2⟩ := s_readLaw (d := d) (by omega) hB R1
  rw [e2, Option.bind_some]
  dsimp only
  unfold zpX
  cases h2 : zlaw B with
  | inl e =>
    rw [h2] at o2
    obtain ⟨rfl, f2, c6, c3⟩ := o2
    rw [if_pos rfl]
    exact zPE_ret (show zRead M (.inl e) 0 _ from ⟨rfl, (F1.trans f2).w (by decide), zw_eq _ _ _ _, by rw [zw_nk (by decide)]; exact c6, by rw [zw_nk (by decide)]; exact c3⟩)
  | inr v =>
    rw [h2] at o2
    obtain ⟨rfl, f2, c6, R2, W2, P2⟩ := o2
    rw [if_neg zn10]
    obtain ⟨r3, M3, e3, o3⟩ := s_readStamps (d := d) (by omega) hB (show zT0 v.1 v.2.1 v.2.2.1 2 = 0 from rfl) R2 W2 P2
    change zOut M2 (zbd (zpS B (v.1 * v.2.1) 0 (zT0 v.1 v.2.1 v.2.2.1) v.2.2.2) (zpE B)) _ r3 M3 at o3
    rw [e3, Option.bind_some]
    dsimp only
    show zPE _ _ _ _ (zRead M (zbd (zbd (zpS B (v.1 * v.2.1) 0 (zT0 v.1 v.2.1 v.2.2.1) v.2.2.2) (zpE B)) _))
    cases h3 : zbd (zpS B (v.1 * v.2.1) 0 (zT0 v.1 v.2.1 v.2.2.1) v.2.2.2) (zpE B) with
    | inl e =>
      rw [h3] at o3
      obtain ⟨rfl, f3, k6, k3⟩ := o3
      rw [if_pos rfl]
      exact zPE_ret (show zRead M (.inl e) 0 _ from ⟨rfl, ((F1.trans f2).trans f3).w (by decide), zw_eq _ _ _ _, by rw [zw_nk (by decide)]; exact k6, by rw [zw_nk (by decide)]; exact k3⟩)
    | inr s =>
      rw [h3] at o3
      obtain ⟨rfl, f3, k6, R3, z3, W3, P3⟩ := o3
      rw [if_neg zn10]
      obtain ⟨r4, M4, e4, o4⟩ := s_readCusts (d := d) (by omega) hB z3 R3 W3 P3
      rw [e4, Option.bind_some]
      dsimp only
      show zPE _ _ _ _ (zRead M (zpC B n 5 s.1 s.2))
      cases h4 : zpC B n 5 s.1 s.2 with
      | inl e =>
        rw [h4] at o4
        obtain ⟨rfl, f4, t6, t3⟩ := o4
        rw [if_pos rfl]
        exact zPE_ret (show zRead M (.inl e) 0 _ from ⟨rfl, (((F1.trans f2).trans f3).trans f4).w (by decide), zw_eq _ _ _ _, by rw [zw_nk (by decide)]; exact t6, by rw [zw_nk (by decide)]; exact t3⟩)
      | inr T =>
        rw [h4] at o4
        obtain ⟨rfl, f4, t6, W4, P4⟩ := o4
        rw [if_neg zn10]
        refine zPE_ret (show zRead M (.inr T) 1 _ from ⟨rfl, (((F1.trans f2).trans f3).trans f4).w (by decide), zw_eq _ _ _ _, ?_, W4.wf, W4.2.1, W4.2.2.2.2.2.2.2.1, (P4.fr (zFr.rf.w (by decide))).sh⟩)
        rw [zw_nk (by decide), t6, k6, c6, g1]
end ZX56

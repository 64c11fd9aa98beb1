/-! A sheet as the reference reads it, in all; both -/
def zsp1 (B : Nat → Nat) (q : Nat) : (Nat × Nat) ⊕ (Nat × Nat) := if zkb (B q) = 0 then .inl (1, q) else zbd (zpN B 0 9 (q + 1)) fun v => zbd (zpT B 59 v.2) fun q3 => .inr (v.1, q3)
def zcp1 (B : Nat → Nat) (q : Nat) : (Nat × Nat) ⊕ (Nat × Nat × Nat) := zbd (zpN B 0 99 (q + 1)) fun l => zbd (zpT B 44 l.2) fun q2 => zbd (zpN B l.1 99 q2) fun m => zbd (zpT B 59 m.2) fun q3 => .inr (l.1, m.1, q3)
theorem zbd_bd {α β γ : Type} (x : (Nat × Nat) ⊕ α) (f : α → (Nat × Nat) ⊕ β) (g : β → (Nat × Nat) ⊕ γ) : zbd (zbd x f) g = zbd x (fun a => zbd (f a) g) := by
  cases x <;> rfl
theorem zpS_1 (B : Nat → Nat) (r c : Nat) (T : Nat → Nat) (q : Nat) : zpS B (r + 1) c T q = zbd (zsp1 B q) fun s => zpS B r (c + 1) (zup2 T c (zkb (B q)) s.1) s.2 := by
  rw [zpS]
  unfold zsp1
  by_cases h : zkb (B q) = 0
  · rw [if_pos h, if_pos h]; rfl
  · rw [if_neg h, if_neg h, zbd_bd]
    congr 1
    funext v
    rw [zbd_bd]
    rfl
theorem zpC_1 (B : Nat → Nat) (n r : Nat) (T : Nat → Nat) (q : Nat) (h : B q = 110) : zpC B n (r + 1) T q = zbd (zcp1 B q) fun s => zpC B n r (zadd T s.1 s.2.1) s.2.2 := by
  rw [zpC, if_pos h]
  unfold zcp1
  rw [zbd_bd]
  congr 1
  funext l
  rw [zbd_bd]
  congr 1
  funext q2
  rw [zbd_bd]
  congr 1
  funext m
  rw [zbd_bd]
  rfl
section ZX58
variable {d : Nat} {M M0 Mk : ZM} {B : Nat → Nat} {n : Nat} {T : Nat → Nat}
theorem s_readsStamp (hd : 4 ≤ d) (hB : zBy B n) {c q : Nat} (hc : c < 10) (hR : zRM B n M q) (hD : zDr T M) : ∃ r M', (zenv zbt d).1 161 [.ref 66, .int (nI c)] M = some (r, M') ∧ zOutM M (zsp1 B q) (fun s M' => zRM B n M' s.2 ∧ s.1 ≤ 9 ∧ zDr (zup2 T c (zkb (B q)) s.1) M') r M' := by
  obtain ⟨d, rfl⟩ : ∃ e, d = e + 1 := ⟨d - 1, by omega⟩
  obtain ⟨r1, r2, r3⟩ := id hR
  have hk := zkb_lt (B q)
  have f0 : zFm M (zw M 66 8 (nI q)) := zFm.rf.w6 (by omega)
  suffices h : zLE (zenv zbt d) tb_X8_readsStamp cu_X8_readsStamp 0 [some (.ref 66), some (.int (nI c)), none] [] M (zOutM M (zsp1 B q) (fun s M' => zRM B n M' s.2 ∧ s.1 ≤ 9 ∧ zDr (zup2 T c (zkb (B q)) s.1) M')) by
    obtain ⟨r, M', h1, h2⟩ := h
    exact ⟨r, M', c_X8_readsStamp h1, h2⟩
  apply zLE_of
  unfold zsp1
  rw [e_X8_readsStamp_0, r3, s_byteAt (by omega) hB (r1.fm f0) r2, Option.bind_some]
  dsimp only
  rw [s_kindBy (by omega) hB, Option.bind_some]
  dsimp only
  by_cases h0 : zkb (B q) = 0
  · rw [if_pos (show nI (zkb (B q)) = 0 by rw [h0]; rfl), if_pos h0, s_wrongs (by omega), Option.bind_some]
    exact zPE_ret (zOutM_f (e := (1, q)) (f0.w6 (by omega)) (zw_eq _ _ _ _) (by rw [zw_nk (by decide), zw_eq]))
  have hl := zlt_iff.mp (zkb_l h0)
  have hqn : q < n := Nat.lt_of_not_le fun g => by rw [hB.2.2 q g] at hl; omega
  have e7 : (zw M 66 8 (nI q)).1 66 7 = nI q := by rw [zw_nk (by decide)]; exact r3
  rw [if_neg (nI_ne0 (by omega) (by omega)), if_neg h0, show (3 : Int32) + nI c = nI (3 + c) from nI_add 3 c, show (31 : Int32) + nI c = nI (31 + c) from nI_add 31 c, zck_t (zinN (by omega) (by decide)), zcN (by omega), e7, nI_1]
  have F1 : zFm M (zw (zw (zw M 66 8 (nI q)) 73 (3 + c) (nI (zkb (B q)))) 66 7 (nI (q + 1))) := f0.w73.w6 (by omega)
  have R1 : zRM B n (zw (zw (zw M 66 8 (nI q)) 73 (3 + c) (nI (zkb (B q)))) 66 7 (nI (q + 1))) (q + 1) := ⟨r1.fm F1, by omega, zw_eq _ _ _ _⟩
  obtain ⟨r2', M2, e2, o2⟩ := s_numM (d := d) (p := 31 + c) (lo := 0) (hi := 9) (by omega) hB (by omega) (by decide) (by decide) R1
  rw [show (0 : Int32) = nI 0 from rfl, show (9 : Int32) = nI 9 from rfl, e2, Option.bind_some]
  dsimp only
  cases h2 : zpN B 0 9 (q + 1) with
  | inl e =>
    rw [h2] at o2
    obtain ⟨rfl, f2, c9, c8⟩ := o2
    rw [if_pos zn0.symm]
    exact zPE_ret (zOutM_f (F1.trans f2) c9 c8)
  | inr v =>
    rw [h2] at o2
    obtain ⟨rfl, f2, R2, ⟨w1, w2, w3⟩, p2, D2⟩ := o2
    rw [if_neg (show ¬ ((1 : Int32) = nI 0) by decide)]
    obtain ⟨r3', M3, e3, o3⟩ := s_takesM (d := d) (s := 59) (by omega) hB (by decide) R2
    rw [show (59 : Int32) = nI 59 from rfl, e3, Option.bind_some]
    dsimp only
    show zPE _ _ _ _ (zOutM M (zbd (zpT B 59 v.2) _) _)
    cases h3 : zpT B 59 v.2 with
    | inl e =>
      rw [h3] at o3
      obtain ⟨rfl, f3, c9, c8⟩ := o3
      rw [if_pos zn0.symm]
      exact zPE_ret (zOutM_f ((F1.trans f2).trans f3) c9 c8)
    | inr q3 =>
      rw [h3] at o3
      obtain ⟨rfl, f3, R3, D3⟩ := o3
      rw [if_neg (show ¬ ((1 : Int32) = nI 0) by decide)]
      refine zPE_ret (zOutM_t ((F1.trans f2).trans f3) ⟨R3, w2, fun k hk2 => ?_⟩)
      show M3.1 73 k = nI (zup2 T c (zkb (B q)) v.1 k)
      rw [D3]
      unfold zup2
      by_cases k31 : k = 31 + c
      · rw [k31, p2, if_neg (by omega), if_pos rfl]
      rw [D2 k k31, zw_nc (by decide)]
      by_cases k3 : k = 3 + c
      · rw [k3, zw_eq, if_pos rfl]
      · rw [zw_nk k3, zw_nc (by decide), if_neg k3, if_neg k31]; exact hD k hk2
theorem s_readsCust (hd : 4 ≤ d) (hB : zBy B n) {q : Nat} (hR : zRM B n M q) (hD : zDr T M) (h5 : T 2 ≤ 5) : ∃ r M', (zenv zbt d).1 162 [.ref 66] M = some (r, M') ∧ zOutM M (if B q = 110 then (if T 2 = 5 then .inl (3, q) else zcp1 B q) else .inl (if T 2 = 0 ∧ zkb (B q) ≠ 0 then 3 else 1, q)) (fun s M' => zRM B n M' s.2.2 ∧ zDr (zadd T s.1 s.2.1) M') r M' := by
  obtain ⟨d, rfl⟩ : ∃ e, d = e + 1 := ⟨d - 1, by omega⟩
  have hk := zkb_lt (B q)
  have hq8 := hR
  suffices h : zLE (zenv zbt d) tb_X8_readsCustomer cu_X8_readsCustomer 0 [some (.ref 66), none] [] M (zOutM M (if B q = 110 then (if T 2 = 5 then .inl (3, q) else zcp1 B q) else .inl (if T 2 = 0 ∧ zkb (B q) ≠ 0 then 3 else 1, q)) (fun s M' => zRM B n M' s.2.2 ∧ zDr (zadd T s.1 s.2.1) M')) by
    obtain ⟨r, M', h1, h2⟩ := h
    exact ⟨r, M', c_X8_readsCustomer h1, h2⟩
  apply zLE_of
  obtain ⟨r1, M1, e1, o1⟩ := s_takesM (d := d) (s := 110) (by omega) hB (by decide) hR
  rw [e_X8_readsCustomer_0, show (110 : Int32) = nI 110 from rfl, e1, Option.bind_some, hD 2 (by decide)]
  dsimp only
  by_cases h1 : B q = 110
  · have ep : zpT B 110 q = .inr (q + 1) := by unfold zpT; rw [if_pos h1]
    rw [ep] at o1
    obtain ⟨rfl, f1, R1, D1⟩ := o1
    rw [if_neg zn10, if_pos h1]
    have d2 : M1.1 73 2 = nI (T 2) := by rw [D1]; exact hD 2 (by decide)
    by_cases h55 : T 2 = 5
    · have h8 : M1.1 66 8 = nI q := by
        obtain ⟨d', rfl⟩ : ∃ e, d = e + 1 := ⟨d - 1, by omega⟩
        have f0 : zFm M (zw M 66 8 (nI q)) := zFm.rf.w6 (by omega)
        have e1' : (zenv zbt (d' + 1)).1 157 [.ref 66, .int (nI 110)] M = some (1, zw (zw M 66 8 (nI q)) 66 7 (nI (q + 1))) := by
          apply c_X8_takes
          apply zL_of; rw [e_X8_takes_0, hR.2.2, s_byteAt (by omega) hB (hR.1.fm f0) hR.2.1, Option.bind_some]
          dsimp only
          rw [if_pos ((zbv_eq hB (s := 110) (by decide)).mpr h1), zw_nk (by decide), hR.2.2, nI_1]; rfl
        rw [e1'] at e1
        have := (Prod.mk.inj (Option.some.inj e1)).2
        rw [← this, zw_nk (by decide), zw_eq]
      rw [if_pos (show nI (T 2) = 5 by rw [h55]; rfl), if_pos h55, s_wrongs (by omega), Option.bind_some]
      exact zPE_ret (zOutM_f (e := (3, q)) (f1.w6 (by omega)) (zw_eq _ _ _ _) (by rw [zw_nk (by decide)]; exact h8))
    rw [if_neg (show ¬ (nI (T 2) = 5) from fun g => h55 ((nI_eq (b := 5) (by omega) (by decide)).mp g)), if_neg h55, d2, nI_1, show (13 : Int32) + nI (T 2) = nI (13 + T 2) from nI_add 13 _, show (18 : Int32) + nI (T 2) = nI (18 + T 2) from nI_add 18 _]
    have F2 : zFm M (zw M1 73 2 (nI (T 2 + 1))) := f1.w73
    have R2 : zRM B n (zw M1 73 2 (nI (T 2 + 1))) (q + 1) := ⟨hR.1.fm F2, R1.2.1, by rw [zw_nc (by decide)]; exact R1.2.2⟩
    obtain ⟨r3, M3, e3, o3⟩ := s_numM (d := d) (p := 13 + T 2) (lo := 0) (hi := 99) (by omega) hB (by omega) (by decide) (by decide) R2
    unfold zcp1
    rw [show (0 : Int32) = nI 0 from rfl, show (99 : Int32) = nI 99 from rfl, e3, Option.bind_some]
    dsimp only
    cases h3 : zpN B 0 99 (q + 1) with
    | inl e =>
      rw [h3] at o3
      obtain ⟨rfl, f3, c9, c8⟩ := o3
      rw [if_pos zn0.symm]
      exact zPE_ret (zOutM_f (F2.trans f3) c9 c8)
    | inr l =>
      rw [h3] at o3
      obtain ⟨rfl, f3, R3, ⟨w1, w2, w3⟩, p3, D3⟩ := o3
      rw [if_neg (show ¬ ((1 : Int32) = nI 0) by decide)]
      have F3 := F2.trans f3
      obtain ⟨r4, M4, e4, o4⟩ := s_takesM (d := d) (s := 44) (by omega) hB (by decide) R3
      rw [show (44 : Int32) = nI 44 from rfl, e4, Option.bind_some]
      dsimp only
      show zPE _ _ _ _ (zOutM M (zbd (zpT B 44 l.2) _) _)
      cases h4 : zpT B 44 l.2 with
      | inl e =>
        rw [h4] at o4
        obtain ⟨rfl, f4, c9, c8⟩ := o4
        rw [if_pos zn0.symm]
        exact zPE_ret (zOutM_f (F3.trans f4) c9 c8)
      | inr q2 =>
        rw [h4] at o4
        obtain ⟨rfl, f4, R4, D4⟩ := o4
        have F4 := F3.trans f4
        have p4 : M4.1 73 (13 + T 2) = nI l.1 := by rw [D4]; exact p3
        rw [if_neg (show ¬ ((1 : Int32) = nI 0) by decide), zck_t (zinN (by omega) (by decide)), zcN (by omega), p4]
        obtain ⟨r5, M5, e5, o5⟩ := s_numM (d := d) (p := 18 + T 2) (lo := l.1) (hi := 99) (by omega) hB (by omega) (by omega) (by decide) R4
        rw [e5, Option.bind_some]
        dsimp only
        show zPE _ _ _ _ (zOutM M (zbd (zpN B l.1 99 q2) _) _)
        cases h5' : zpN B l.1 99 q2 with
        | inl e =>
          rw [h5'] at o5
          obtain ⟨rfl, f5, c9, c8⟩ := o5
          rw [if_pos zn0.symm]
          exact zPE_ret (zOutM_f (F4.trans f5) c9 c8)
        | inr m =>
          rw [h5'] at o5
          obtain ⟨rfl, f5, R5, ⟨y1, y2, y3⟩, p5, D5⟩ := o5
          rw [if_neg (show ¬ ((1 : Int32) = nI 0) by decide)]
          have F5 := F4.trans f5
          obtain ⟨r6, M6, e6, o6⟩ := s_takesM (d := d) (s := 59) (by omega) hB (by decide) R5
          rw [show (59 : Int32) = nI 59 from rfl, e6, Option.bind_some]
          dsimp only
          show zPE _ _ _ _ (zOutM M (zbd (zpT B 59 m.2) _) _)
          cases h6 : zpT B 59 m.2 with
          | inl e =>
            rw [h6] at o6
            obtain ⟨rfl, f6, c9, c8⟩ := o6
            rw [if_pos zn0.symm]
            exact zPE_ret (zOutM_f (F5.trans f6) c9 c8)
          | inr q3 =>
            rw [h6] at o6
            obtain ⟨rfl, f6, R6, D6⟩ := o6
            rw [if_neg (show ¬ ((1 : Int32) = nI 0) by decide)]
            refine zPE_ret (zOutM_t (F5.trans f6) ⟨R6, fun k hk2 => ?_⟩)
            show M6.1 73 k = nI (zadd T l.1 m.1 k)
            rw [D6]
            unfold zadd
            by_cases k18 : k = 18 + T 2
            · rw [k18, p5, if_neg (by omega), if_neg (by omega), if_pos rfl]
            rw [D5 k k18, D4]
            by_cases k13 : k = 13 + T 2
            · rw [k13, p3, if_neg (by omega), if_pos rfl]
            rw [D3 k k13]
            by_cases k2 : k = 2
            · rw [k2, zw_eq, if_pos rfl]
            · rw [zw_nk k2, if_neg k2, if_neg k13, if_neg k18, D1]; exact hD k hk2
  · have ep : zpT B 110 q = .inl (1, q) := by unfold zpT; rw [if_neg h1]
    rw [ep] at o1
    obtain ⟨rfl, f1, c9, c8⟩ := o1
    rw [if_pos rfl, if_neg h1]
    have e7 : M1.1 66 7 = nI q := by
      obtain ⟨d', rfl⟩ : ∃ e, d = e + 1 := ⟨d - 1, by omega⟩
      have f0 : zFm M (zw M 66 8 (nI q)) := zFm.rf.w6 (by omega)
      have e1' : (zenv zbt (d' + 1)).1 157 [.ref 66, .int (nI 110)] M = some (0, zw (zw M 66 8 (nI q)) 66 9 1) := by
        apply c_X8_takes
        apply zL_of; rw [e_X8_takes_0, hR.2.2, s_byteAt (by omega) hB (hR.1.fm f0) hR.2.1, Option.bind_some]
        dsimp only
        rw [if_neg (fun g => h1 ((zbv_eq hB (s := 110) (by decide)).mp g)), s_wrongs (by omega), Option.bind_some]; rfl
      rw [e1'] at e1
      have := (Prod.mk.inj (Option.some.inj e1)).2
      rw [← this, zw_nk (by decide), zw_nk (by decide)]; exact hR.2.2
    by_cases h20 : T 2 = 0
    · rw [if_pos (show nI (T 2) = 0 by rw [h20]; rfl), e7, s_byteAt (by omega) hB (hR.1.fm f1) hR.2.1, Option.bind_some]
      dsimp only
      rw [s_kindBy (by omega) hB, Option.bind_some]
      dsimp only
      by_cases hz : zkb (B q) = 0
      · rw [if_pos (show nI (zkb (B q)) ≤ 0 by rw [hz]; decide), if_neg (fun g => g.2 hz)]
        exact zPE_ret (zOutM_f (e := (1, q)) f1 c9 c8)
      · rw [if_neg (nI_nle (by omega) (by omega)), if_pos ⟨h20, hz⟩, s_wrongs (by omega), Option.bind_some]
        dsimp only
        rw [if_pos rfl]
        exact zPE_ret (zOutM_f (e := (3, q)) (f1.w6 (by omega)) (zw_eq _ _ _ _) (by rw [zw_nk (by decide)]; exact c8))
    · rw [if_neg (nI_ne0 (by omega) (by omega)), if_neg (fun g => h20 g.1)]
      exact zPE_ret (zOutM_f (e := (1, q)) f1 c9 c8)
theorem l_custM (hd : 4 ≤ d) (hB : zBy B n) : ∀ r T q Mk, T 2 + r = 5 → (T 2 = 0 → zkb (B q) = 0) → zRM B n Mk q → zDr T Mk → zFm M Mk → zLE (zenv zbt d) tb_X8_reads cu_X8_reads 78 [some (.ref 66), none] [] Mk (zOutM M (zpC B n r T q) (fun s M' => zDr s M')) := by
  intro r
  have h120 := hB.1
  have stop : ∀ r T q Mk, n ≤ q → zRM B n Mk q → zDr T Mk → zFm M Mk → zLE (zenv zbt d) tb_X8_reads cu_X8_reads 78 [some (.ref 66), none] [] Mk (zOutM M (zpC B n r T q) (fun s M' => zDr s M')) := by
    intro r T q Mk hq hR hD hf
    have hb : ¬ B q = 110 := by rw [hB.2.2 q hq]; omega
    apply zLE_of
    have ep : zpC B n r T q = .inr T := by
      cases r with
      | zero => rw [zpC, if_neg hb, if_pos hq]
      | succ r => rw [zpC, if_neg hb, if_pos hq]
    have hqn := hR.2.1
    rw [e_X8_reads_78, hR.1.1, hR.2.2, if_pos (nI_le hq (by omega)), ep]
    exact zPE_ret (zOutM_t hf hD)
  induction r with
  | zero =>
    intro T q Mk hT hk hR hD hf
    by_cases hq : n ≤ q
    · exact stop 0 T q Mk hq hR hD hf
    obtain ⟨r1, M1, e1, o1⟩ := s_readsCust (d := d) hd hB hR hD (by omega)
    apply zLE_of
    rw [e_X8_reads_78, hR.1.1, hR.2.2, if_neg (nI_ge (by omega) (by omega)), e1, Option.bind_some, zpC]
    dsimp only
    by_cases h1 : B q = 110
    · rw [if_pos h1, if_pos (show T 2 = 5 by omega)] at o1
      obtain ⟨rfl, f1, c9, c8⟩ := o1
      rw [if_pos rfl, if_pos h1]
      exact zPE_ret (zOutM_f (hf.trans f1) c9 c8)
    · rw [if_neg h1, if_neg (fun g => by omega)] at o1
      obtain ⟨rfl, f1, c9, c8⟩ := o1
      rw [if_pos rfl, if_neg h1, if_neg hq]
      exact zPE_ret (zOutM_f (hf.trans f1) c9 c8)
  | succ r ih =>
    intro T q Mk hT hk hR hD hf
    by_cases hq : n ≤ q
    · exact stop (r + 1) T q Mk hq hR hD hf
    obtain ⟨r1, M1, e1, o1⟩ := s_readsCust (d := d) hd hB hR hD (by omega)
    apply zLE_of
    rw [e_X8_reads_78, hR.1.1, hR.2.2, if_neg (nI_ge (by omega) (by omega)), e1, Option.bind_some]
    dsimp only
    by_cases h1 : B q = 110
    · rw [if_pos h1, if_neg (show ¬ T 2 = 5 by omega)] at o1
      rw [zpC_1 _ _ _ _ _ h1]
      cases h2 : zcp1 B q with
      | inl e =>
        rw [h2] at o1
        obtain ⟨rfl, f1, c9, c8⟩ := o1
        rw [if_pos rfl]
        exact zPE_ret (zOutM_f (hf.trans f1) c9 c8)
      | inr s =>
        rw [h2] at o1
        obtain ⟨rfl, f1, R1, D1⟩ := o1
        rw [if_neg zn10]
        apply zPE_go
        exact ih (zadd T s.1 s.2.1) s.2.2 M1 (by rw [zadd_2]; omega) (fun g => by rw [zadd_2] at g; omega) R1 D1 (hf.trans f1)
    · have hc : ¬ (T 2 = 0 ∧ zkb (B q) ≠ 0) := fun g => g.2 (hk g.1)
      rw [if_neg h1, if_neg hc] at o1
      obtain ⟨rfl, f1, c9, c8⟩ := o1
      rw [if_pos rfl, zpC, if_neg h1, if_neg hq]
      exact zPE_ret (zOutM_f (hf.trans f1) c9 c8)
theorem l_stampM (hd : 4 ≤ d) (hB : zBy B n) : ∀ r c T q Mk, c + r = T 0 → T 0 ≤ 10 → T 2 = 0 → zRM B n Mk q → zDr T Mk → zFm M Mk → zLE (zenv zbt d) tb_X8_reads cu_X8_reads 52 [some (.ref 66), some (.int (nI c))] [] Mk (zOutM M (zbd (zbd (zpS B r c T q) (zpE B)) fun s => zpC B n 5 s.1 s.2) (fun s M' => zDr s M')) := by
  intro r
  have h120 := hB.1
  induction r with
  | zero =>
    intro c T q Mk hc hN h2 hR hD hf
    apply zLE_of
    rw [e_X8_reads_52, hD 0 (by decide), if_pos (nI_le (by omega) (by omega))]
    apply zPE_go
    show zLE _ _ _ _ _ _ _ (zOutM M (zbd (zpE B (T, q)) _) _)
    unfold zpE
    by_cases hz : zkb (B q) = 0
    · rw [if_pos hz]
      exact l_custM hd hB 5 T q Mk (by omega) (fun _ => hz) hR hD hf
    · rw [if_neg hz]
      have hl := zlt_iff.mp (zkb_l hz)
      have hqn : q < n := Nat.lt_of_not_le fun g => by rw [hB.2.2 q g] at hl; omega
      have hne : ¬ B q = 110 := fun g => hz (by rw [g]; rfl)
      obtain ⟨r1, M1, e1, o1⟩ := s_readsCust (d := d) hd hB hR hD (by omega)
      rw [if_neg hne, if_pos ⟨h2, hz⟩] at o1
      obtain ⟨rfl, f1, c9, c8⟩ := o1
      apply zLE_of
      rw [e_X8_reads_78, hR.1.1, hR.2.2, if_neg (nI_ge (by omega) (by omega)), e1, Option.bind_some]
      dsimp only
      rw [if_pos rfl]
      exact zPE_ret (zOutM_f (hf.trans f1) c9 c8)
  | succ r ih =>
    intro c T q Mk hc hN h2 hR hD hf
    obtain ⟨r1, M1, e1, o1⟩ := s_readsStamp (d := d) (c := c) hd hB (by omega) hR hD
    apply zLE_of
    rw [e_X8_reads_52, hD 0 (by decide), if_neg (nI_ge (by omega) (by omega)), e1, Option.bind_some, zpS_1]
    dsimp only
    cases h1 : zsp1 B q with
    | inl e =>
      rw [h1] at o1
      obtain ⟨rfl, f1, c9, c8⟩ := o1
      rw [if_pos rfl]
      exact zPE_ret (zOutM_f (hf.trans f1) c9 c8)
    | inr s =>
      rw [h1] at o1
      obtain ⟨rfl, f1, R1, v9, D1⟩ := o1
      rw [if_neg zn10, nI_1]
      apply zPE_go
      have e0 : zup2 T c (zkb (B q)) s.1 0 = T 0 := zup2_o (by omega) (by omega)
      exact ih (c + 1) _ s.2 M1 (by rw [e0]; omega) (by rw [e0]; exact hN) (by rw [zup2_o (by omega) (by omega)]; exact h2) R1 D1 (hf.trans f1)
theorem s_reads (hd : 5 ≤ d) (hB : zBy B n) (hT : zTpM B n M) : ∃ r M', (zenv zbt d).1 163 [.ref 66] M = some (r, M') ∧ zOutM M (zpX B n) (fun s M' => zDr s M') r M' := by
  obtain ⟨d, rfl⟩ : ∃ e, d = e + 1 := ⟨d - 1, by omega⟩
  have key : ∀ j, j ≤ 41 → ∀ Mk, zFm M Mk → (∀ k, k < j → Mk.1 73 k = 0) → zLE (zenv zbt d) tb_X8_reads cu_X8_reads 2 [some (.ref 66), some (.int (nI j))] [] Mk (zOutM M (zpX B n) (fun s M' => zDr s M')) := by
    apply zup
    · intro Mk hf hv
      apply zLE_of
      have F1 : zFm M (zw Mk 66 7 0) := hf.w6 (by omega)
      obtain ⟨r1, M1, e1, o1⟩ := s_readsLaw (d := d) (M := zw Mk 66 7 0) (by omega) hB ⟨hT.fm F1, Nat.zero_le _, zw_eq _ _ _ _⟩ (fun k hk => by rw [zw_nc (by decide)]; exact hv k hk)
      rw [e_X8_reads_2, if_pos (by decide), e1, Option.bind_some]
      dsimp only
      unfold zpX
      cases h1 : zlaw B with
      | inl e =>
        rw [h1] at o1
        obtain ⟨rfl, f1, c9, c8⟩ := o1
        rw [if_pos rfl]
        exact zPE_ret (zOutM_f (F1.trans f1) c9 c8)
      | inr v =>
        rw [h1] at o1
        obtain ⟨rfl, f1, R1, D1⟩ := o1
        have d0 := D1 0 (by decide)
        have d1 := D1 1 (by decide)
        change M1.1 73 0 = nI v.2.1 at d0
        change M1.1 73 1 = nI v.1 at d1
        rw [if_neg zn10, d0, d1, pk_mul]
        have F2 : zFm M (zw M1 73 0 (nI (v.2.1 * v.1))) := (F1.trans f1).w73
        apply zPE_go
        have hN : zT0 v.1 v.2.1 v.2.2.1 0 ≤ 10 := by
          show v.1 * v.2.1 ≤ 10
          unfold zlaw at h1
          cases x1 : zpT B 119 0 with
          | inl e => rw [x1] at h1; cases h1
          | inr q1 =>
            rw [x1] at h1
            change zbd (zpN B 1 6 q1) _ = _ at h1
            cases x2 : zpN B 1 6 q1 with
            | inl e => rw [x2] at h1; cases h1
            | inr w =>
              rw [x2] at h1
              change zbd (zpT B 44 w.2) _ = _ at h1
              cases x3 : zpT B 44 w.2 with
              | inl e => rw [x3] at h1; cases h1
              | inr q2 =>
                rw [x3] at h1
                change zbd (zpN B 1 (min 6 (10 / w.1)) q2) _ = _ at h1
                cases x4 : zpN B 1 (min 6 (10 / w.1)) q2 with
                | inl e => rw [x4] at h1; cases h1
                | inr h =>
                  rw [x4] at h1
                  change zbd (zpT B 44 h.2) _ = _ at h1
                  cases x5 : zpT B 44 h.2 with
                  | inl e => rw [x5] at h1; cases h1
                  | inr q3 =>
                    rw [x5] at h1
                    change zbd (zpN B 0 9 q3) _ = _ at h1
                    cases x6 : zpN B 0 9 q3 with
                    | inl e => rw [x6] at h1; cases h1
                    | inr o =>
                      rw [x6] at h1
                      change zbd (zpT B 59 o.2) _ = _ at h1
                      cases x7 : zpT B 59 o.2 with
                      | inl e => rw [x7] at h1; cases h1
                      | inr q4 =>
                        rw [x7] at h1
                        cases h1
                        show w.1 * h.1 ≤ 10
                        have rng : ∀ {lo hi q : Nat} {v : Nat × Nat}, zpN B lo hi q = .inr v → lo ≤ v.1 ∧ v.1 ≤ hi := by
                          intro lo hi q v hv
                          unfold zpN at hv
                          split at hv
                          · cases hv
                          · split at hv
                            · rename_i hr
                              cases hv
                              exact hr
                            · cases hv
                        have a1 := rng x2
                        have a2 := rng x4
                        exact (zshp_of w.1 (by omega) h.1 (by omega) ⟨a1.1, a2.1, by omega⟩).2.1
        have := l_stampM (d := d) (M := M) (by omega) hB (v.1 * v.2.1) 0 (zT0 v.1 v.2.1 v.2.2.1) v.2.2.2 (zw M1 73 0 (nI (v.2.1 * v.1))) (by rw [Nat.zero_add]; rfl) hN rfl ⟨hT.fm F2, R1.2.1, by rw [zw_nc (by decide)]; exact R1.2.2⟩ (fun k hk => by
          by_cases k0 : k = 0
          · rw [k0, zw_eq, Nat.mul_comm]; rfl
          · rw [zw_nk k0, D1 k hk]
            unfold zL1 zT0
            rw [if_neg k0, if_neg k0]) F2
        exact this
    · intro j hj ih Mk hf hv
      apply zLE_of
      rw [e_X8_reads_2, if_neg (show ¬ ((41 : Int32) ≤ nI j) from nI_ge hj (by decide)), zck_t (zinN hj (by decide)), zcN (by omega), nI_1]
      apply zPE_go
      exact ih (zw Mk 73 j 0) hf.w73 (fun k hk => by
        by_cases g : k = j
        · rw [g, zw_eq]
        · rw [zw_nk g]; exact hv k (by omega))
  obtain ⟨r, M', h1, h2⟩ := key 0 (Nat.zero_le _) M zFm.rf (fun k hk => by omega)
  refine ⟨r, M', c_X8_reads ?_, h2⟩
  apply zL_of; rw [e_X8_reads_0]
  exact zPo_go h1
end ZX58

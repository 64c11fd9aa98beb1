/-! sheet -/
section ZX59
variable {d : Nat} {M : ZM} {S : Nat → Nat}
theorem zInv.flt {M' : ZM} {e : Nat × Nat} (hI : zInv S M) (hf : zFr (18 :: 66 :: zScr) M M') (h6 : M'.1 18 6 = nI e.1) (h9 : M'.1 66 9 = nI e.1) (h1 : M'.1 18 1 = 0) (h66 : M'.1 66 6 = 0) (hk : ∀ k, k ≠ 6 → k ≠ 7 → k ≠ 8 → k ≠ 9 → M'.1 66 k = M.1 66 k) : zInv S M' := by
  obtain ⟨i1, i2, i3, i4, i5, i6, i7, i8, i9, i10⟩ := hI
  have hm : ∀ c, c ∉ (18 :: 66 :: zScr) ↔ c ≠ 18 ∧ c ≠ 66 ∧ c ∉ zScr := fun c => by simp [not_or]
  have hns : ∀ c, c < 27 → c ≠ 18 → c ∉ (18 :: 66 :: zScr) := fun c h1 h2 => by
    rw [hm]
    refine ⟨h2, by omega, ?_⟩
    simp only [zScr, List.mem_cons, List.not_mem_nil, or_false]
    omega
  have hns2 : ∀ c, 34 ≤ c → c < 56 → c ∉ (18 :: 66 :: zScr) := fun c h1 h2 => by
    rw [hm]
    refine ⟨by omega, by omega, ?_⟩
    simp only [zScr, List.mem_cons, List.not_mem_nil, or_false]
    omega
  refine ⟨i1, i2.fr hf (fun j hj => hns _ (by omega) (by omega)), i3.fr hf (by decide) (by decide), i4.fr hf (by decide) (by decide) (by decide), fun r hr => zRow.fr hr (i5 r hr) hf (fun c c1 c2 => hns c (by omega) (by omega)) (by decide) (by decide) (by decide), ⟨0, by decide, h1, h66, fun i hi => by omega⟩, ?_, ?_, i9.fr hf (by decide) (by decide) (fun j hj => hns2 _ (by omega) (by omega)), i10.fr hf (by decide) (by decide) (fun j hj => hns2 _ (by omega) (by omega))⟩
  · unfold zMisc at i7 ⊢
    rw [(hf 0 (by decide)).1, (hf 61 (by decide)).1, (hf 62 (by decide)).1, (hf 79 (by decide)).1, (hf 80 (by decide)).2, hk 4 (by decide) (by decide) (by decide) (by decide), hk 19 (by decide) (by decide) (by decide) (by decide)]
    exact ⟨i7.1, by rw [h6, h9], i7.2.2⟩
  · unfold zActs at i8 ⊢
    rw [(hf 49 (by decide)).1, (hf 50 (by decide)).1, (hf 51 (by decide)).1, (hf 52 (by decide)).1, (hf 75 (by decide)).1, hk 14 (by decide) (by decide) (by decide) (by decide)]
    exact i8
theorem l_sheetM (hd : 1 ≤ d) {T : Nat → Nat} (hW : zwf T) (hD : zDr T M) : ∀ j, j ≤ 41 → ∀ Mk, zFr [72] M Mk → (∀ k, k < j → Mk.1 72 k = nI (T k)) → ∃ M', zL (zenv zbt d) tb_X8_sheet cu_X8_sheet 37 [some (.ref 66), none, some (.int (nI j))] [] Mk (some (.int (nI (T 0))), M') ∧ zFr [66, 72, 74] M M' ∧ (∀ k, k ≠ 14 → M'.1 66 k = M.1 66 k) ∧ M'.1 66 14 = 0 ∧ zMod T M' := by
  apply zup
  · intro Mk hf hv
    obtain ⟨M1, e1, f1, g1⟩ := s_joins (d := d) (M := Mk) hd hW.n hW.2.2.1 (hv 0 (by decide)) (hv 1 (by decide))
    have f2 : zFr [66, 72, 74] M M1 := (hf.mono (by decide)).trans (f1.mono (by decide))
    refine ⟨zw M1 66 14 0, ?_, f2.w (by decide), fun k hk => ?_, zw_eq _ _ _ _, fun k hk => ?_, fun c hc => ?_⟩
    · apply zL_of; rw [e_X8_sheet_37, if_pos (by decide), e1, Option.bind_some, (f1 72 (by decide)).1, hv 0 (by decide)]; rfl
    · rw [zw_nk hk, (f1 66 (by decide)).1, (hf 66 (by decide)).1]
    · rw [zw_nc (by decide), (f1 72 (by decide)).1]; exact hv k hk
    · rw [zw_nc (by decide)]; exact g1 c hc
  · intro j hj ih Mk hf hv
    obtain ⟨M', h1, h2⟩ := ih (zw Mk 72 j (nI (T j))) (hf.w (by decide)) (fun k hk => by
      by_cases g : k = j
      · rw [g, zw_eq]
      · rw [zw_nk g]; exact hv k (by omega))
    refine ⟨M', ?_, h2⟩
    apply zL_of; rw [e_X8_sheet_37, if_neg (show ¬ ((41 : Int32) ≤ nI j) from nI_ge hj (by decide)), zck_t (zinN hj (by decide)), zck_t (zinN hj (by decide)), zcN (by omega), (hf 73 (by decide)).1, hD j hj, nI_1]
    exact zPo_go h1
theorem a_sheet (hI : zInv S M) : zAl 85 165 [] M := by
  intro d hd
  obtain ⟨d, rfl⟩ : ∃ e, d = e + 1 := ⟨d - 1, by omega⟩
  obtain ⟨n, hn, t1, t2, t3⟩ := hI.2.2.2.2.2.1
  obtain ⟨B, hBd⟩ : ∃ B : Nat → Nat, B = fun i => if i < n then (M.1 19 i).toNatClampNeg else 1000 := ⟨_, rfl⟩
  have hb : ∀ i, i < n → B i ≤ 255 ∧ M.1 19 i = nI (B i) ∧ M.1 71 i = nI (B i) := fun i hi => by
    obtain ⟨v, v1, v2, v3⟩ := t3 i hi
    have : B i = v := by
      rw [hBd]
      dsimp only
      rw [if_pos hi, v2, zcN (by omega)]
    rw [this]
    exact ⟨v1, v2, v3⟩
  have hB : zBy B n := ⟨hn, fun i hi => (hb i hi).1, fun i hi => by
    rw [hBd]
    dsimp only
    rw [if_neg (by omega)]⟩
  obtain ⟨r1, M1, e1, o1⟩ := s_read (d := d) (M := M) (by omega) hB ⟨t1, fun i hi => (hb i hi).2.1⟩
  cases hx : zpX B n with
  | inl e =>
    rw [hx] at o1
    obtain ⟨rfl, f1, c1, c6, c3⟩ := o1
    have hT : zTpM B n M1 := ⟨by rw [(f1 66 (by decide)).1]; exact t2, fun i hi => by rw [(f1 71 (by decide)).1]; exact (hb i hi).2.2⟩
    obtain ⟨r2, M2, e2, o2⟩ := s_reads (d := d) (by omega) hB hT
    rw [hx] at o2
    obtain ⟨rfl, f2, k9, k8⟩ := o2
    refine ⟨-1000100 - nI e.2, M1, zw M2 66 6 0, S, ?_, ?_, ?_⟩
    · apply c_X7_sheet
      apply zL_of; rw [e_X7_sheet_0, e1, Option.bind_some]
      dsimp only
      rw [if_pos rfl, c3]; rfl
    · apply c_X8_sheet
      apply zL_of; rw [e_X8_sheet_0, e2, Option.bind_some]
      dsimp only
      rw [if_pos rfl, k8]; rfl
    · refine hI.flt (e := e) ((f1.mono (by decide)).trans ((f2.1.mono (by decide)).trans (zFr.rf.w (by decide)))) ?_ ?_ ?_ (zw_eq _ _ _ _) (fun k a b c g => ?_)
      · rw [zw_nc (by decide), (f2.1 18 (by decide)).1]; exact c6
      · rw [zw_nk (by decide)]; exact k9
      · rw [zw_nc (by decide), (f2.1 18 (by decide)).1]; exact c1
      · rw [zw_nk a, f2.2 k b c g, (f1 66 (by decide)).1]
  | inr T =>
    rw [hx] at o1
    obtain ⟨rfl, f1, c1, c6, hW, hT0, hT24, hS1⟩ := o1
    obtain ⟨M2, e2, f2, s2, F2, a2, b2⟩ := s_place (d := d) (by omega) (b := 27) (by unfold zsx; omega) hW hS1
    have hT : zTpM B n M2 := ⟨by rw [(f2 66 (by decide)).1, (f1 66 (by decide)).1]; exact t2, fun i hi => by rw [(f2 71 (by decide)).1, (f1 71 (by decide)).1]; exact (hb i hi).2.2⟩
    obtain ⟨r3, M3, e3, o3⟩ := s_reads (d := d) (by omega) hB hT
    rw [hx] at o3
    obtain ⟨rfl, f3, D3⟩ := o3
    have D4 : zDr T (zw (zw M3 66 9 (M2.1 66 9)) 66 6 0) := fun k hk => by rw [zw_nc (by decide), zw_nc (by decide)]; exact D3 k hk
    obtain ⟨M5, e5, f5, g5, h14, m5⟩ := l_sheetM (d := d) (by omega) hW D4 0 (Nat.zero_le _) _ zFr.rf (fun k hk => by omega)
    have f23 : zFr [66, 72, 73, 74] M2 M5 := (((f3.1.mono (by decide)).w (by decide)).w (by decide)).trans (f5.mono (by decide))
    have q18 : M5.1 18 = M1.1 18 := by rw [(f23 18 (by decide)).1, (f2 18 (by decide)).1]
    have k66 : ∀ k, k ≠ 14 → k ≠ 6 → k ≠ 7 → k ≠ 8 → k ≠ 9 → M5.1 66 k = M.1 66 k := fun k h1 h2 h3 h4 h5 => by
      rw [g5 k h1, zw_nk h2, zw_nk h5, f3.2 k h3 h4 h5, (f2 66 (by decide)).1, (f1 66 (by decide)).1]
    refine ⟨nI (T 0), M2, M5, T, ?_, ?_, hI.new hW ((f1.mono (by decide)).trans ((f2.mono (by decide)).trans (f23.mono (by decide)))) (s2.fr f23 (fun j hj => by simp; omega)) m5 (F2.fr f23 (by decide) (by decide) (by decide)) ⟨0, by decide, by rw [q18]; exact c1, by rw [g5 6 (by decide), zw_eq]; rfl, fun i hi => by omega⟩ ?_ ?_ ?_ ?_ ?_ h14⟩
    · apply c_X7_sheet
      apply zL_of; rw [e_X7_sheet_0, e1, Option.bind_some]
      dsimp only
      rw [if_neg zn10, e2, Option.bind_some, s2.2.1]; rfl
    · apply c_X8_sheet
      apply zL_of; rw [e_X8_sheet_0, e3, Option.bind_some]
      dsimp only
      rw [if_neg zn10]
      exact zPo_go e5
    · rw [q18, c6, g5 9 (by decide), zw_nk (by decide), zw_eq, (f2 66 (by decide)).1, (f1 66 (by decide)).1]
      exact hI.mi.2.1
    · exact k66 4 (by decide) (by decide) (by decide) (by decide) (by decide)
    · exact k66 19 (by decide) (by decide) (by decide) (by decide) (by decide)
    · rw [(f23 49 (by decide)).1, a2 3 (by decide), (f1 49 (by decide)).1]
    · rw [(f23 49 (by decide)).1]; exact b2
end ZX59

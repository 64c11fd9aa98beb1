/-! What two rows tell: what is found first -/
/-- a row: its size, or none -/
def zRd (M : ZM) (r : Nat) (R : Option Nat) : Prop := (R = none ∧ M.1 (2 + r) 1 = 0 ∧ M.1 68 r = -1) ∨ ∃ n, R = some n ∧ n ≤ 40 ∧ M.1 (2 + r) 1 = 1 ∧ M.1 (2 + r) 3 = nI n ∧ M.1 68 r = nI n ∧ ∀ i, i < 40 → M.1 (10 + r) i = M.1 69 (40 * r + i)
def zfnd (R1 R2 : Option Nat) (it : Nat → Int32) (N : Nat) (i j : Int32) (n : Nat) : Nat := match R1 with
  | none => 1
  | some n1 => if zrch n1 i (nI n) then (if (zmx it N n).isSome then (match R2 with
    | none => 1
    | some n2 => if zrch n2 j (nI n) then 0 else 2) else 3) else 2
section ZX46
variable {d : Nat} {M : ZM} {S : Nat → Nat}
theorem zRow.rd {r : Nat} (h : zRow M r) : ∃ R, zRd M r R := by
  rcases h with ⟨h1, h2⟩ | ⟨h1, n, l, h2, h3, h4, h5, h6, h7, h8⟩
  · exact ⟨none, Or.inl ⟨rfl, h1, h2⟩⟩
  · exact ⟨some n, Or.inr ⟨n, rfl, h2, h1, h4, h5, h8⟩⟩
theorem zRd.fr {cs : List Nat} {M' : ZM} {r : Nat} {R : Option Nat} (hr : r < 8) (hR : zRd M r R) (h : zFr cs M M') (h1 : ∀ c, 2 ≤ c → c < 18 → c ∉ cs) (h2 : 68 ∉ cs) (h3 : 69 ∉ cs) : zRd M' r R := by
  unfold zRd at hR ⊢
  rw [(h (2 + r) (h1 _ (by omega) (by omega))).1, (h (10 + r) (h1 _ (by omega) (by omega))).1, (h 68 h2).1, (h 69 h3).1]
  exact hR
theorem zrch_n {n1 n : Nat} {i : Int32} (h1 : n1 ≤ 40) (hn : n ≤ 10) (h : zrch n1 i (nI n) = true) : ∃ i', i = nI i' ∧ i' + n ≤ n1 := by
  obtain ⟨i', k', e1, e2, e3⟩ := zrch_of h1 h
  have : n = k' := (nI_eq (by omega) (by omega)).mp e2
  exact ⟨i', e1, by omega⟩
theorem zfnd_0 {R1 R2 : Option Nat} {it : Nat → Int32} {N n r o : Nat} {i j : Int32} (hn : n ≤ 10) (h1 : zRd M r R1) (h2 : zRd M o R2) (h : zfnd R1 R2 it N i j n = 0) : ∃ i' j' m, i = nI i' ∧ i' + n ≤ 40 ∧ j = nI j' ∧ j' + n ≤ 40 ∧ zmx it N n = some m := by
  rcases h1 with ⟨rfl, -⟩ | ⟨n1, rfl, a1, -⟩
  · cases h
  simp only [zfnd] at h
  cases q : zrch n1 i (nI n)
  · rw [q] at h; cases h
  rw [q, if_pos rfl] at h
  cases q2 : zmx it N n with
  | none => rw [q2] at h; cases h
  | some m =>
    rw [q2] at h
    rcases h2 with ⟨rfl, -⟩ | ⟨n2, rfl, a2, -⟩
    · cases h
    cases q3 : zrch n2 j (nI n)
    · simp [q3] at h
    obtain ⟨i', e1, e2⟩ := zrch_n a1 hn q
    obtain ⟨j', e3, e4⟩ := zrch_n a2 hn q3
    exact ⟨i', j', m, e1, by omega, e3, by omega, rfl⟩
theorem zfnd_lt {R1 R2 : Option Nat} {it : Nat → Int32} {N n : Nat} {i j : Int32} : zfnd R1 R2 it N i j n < 6 := by
  unfold zfnd
  split
  · decide
  · split
    · split
      · split
        · decide
        · split <;> decide
      · decide
    · decide
theorem s_takeTold (hd : 2 ≤ d) {r o n N : Nat} {R1 R2 : Option Nat} (hr : r < 8) (ho : o < 8) (hn : n ≤ 10) (h1 : zRd M r R1) (h2 : zRd M o R2) (hN : N ≤ 10) (hc : M.1 20 1 = nI N) (i j : Int32) : ∃ M', (zenv zbt d).1 136 [.ref 0, .int (nI r), .int i, .int (nI o), .int j, .int (nI n)] M = some (nI (zfnd R1 R2 (fun k => M.1 69 (40 * r + i.toNatClampNeg + k)) N i j n), M') ∧ zFr [63, 64, 65] M M' ∧ (zfnd R1 R2 (fun k => M.1 69 (40 * r + i.toNatClampNeg + k)) N i j n = 0 → zTld M' n (fun k => (M.1 69 (40 * r + i.toNatClampNeg + k)).toNatClampNeg) (fun k => M.1 69 (40 * o + j.toNatClampNeg + k))) := by
  obtain ⟨d, rfl⟩ : ∃ e, d = e + 1 := ⟨d - 1, by omega⟩
  obtain ⟨z1, z2, z3, z4, z5, z6⟩ := zfi4 r hr
  obtain ⟨y1, y2, y3, y4, y5, y6⟩ := zfi4 o ho
  have ez6 : (zis (2 + r) 4 && true) = true := by rw [z6]; rfl
  have ey6 : (zis (2 + o) 4 && true) = true := by rw [y6]; rfl
  rcases h1 with ⟨rfl, a1, a2⟩ | ⟨n1, rfl, b1, b2, b3, b4, b5⟩
  · refine ⟨M, ?_, zFr.rf, fun q => by cases q⟩
    apply c_X7_takeTold
    apply zL_of; rw [e_X7_takeTold_0, zck_t (zinN hr (by decide)), zcN (by omega), zel1 r hr, zck_t z1, a1, if_pos rfl]; rfl
  cases q : zrch n1 i (nI n)
  · have e : ∀ it, zfnd (some n1) R2 it N i j n = 2 := fun it => by simp [zfnd, q]
    rw [e]
    refine ⟨M, ?_, zFr.rf, fun q => by cases q⟩
    apply c_X7_takeTold
    apply zL_of; rw [e_X7_takeTold_0, zck_t (zinN hr (by decide)), zcN (by omega), zel1 r hr, zck_t z1, b2, if_neg zn10, zck_t ez6, s_reaches (by omega) hr b1 b3, Option.bind_some]
    dsimp only
    rw [q, zbi_f (by decide), if_pos rfl]; rfl
  obtain ⟨i', rfl, hi'⟩ := zrch_n b1 hn q
  rw [zcN (show i' < 2 ^ 31 by omega)]
  obtain ⟨M1, e1, f1, g1⟩ := s_takeCells (d := d) (M := M) (N := N) (it := fun k => M.1 69 (40 * r + i' + k)) (by omega) hr (show i' + n ≤ 40 by omega) hn hN (fun k hk => by rw [b5 _ (by omega), Nat.add_assoc])
  cases q2 : (zmx (fun k => M.1 69 (40 * r + i' + k)) N n).isSome
  · have e : zfnd (some n1) R2 (fun k => M.1 69 (40 * r + i' + k)) N (nI i') j n = 3 := by simp [zfnd, q, q2]
    rw [e]
    rw [q2, zbi_f (by decide)] at e1
    refine ⟨M1, ?_, f1.mono (by decide), fun q => by cases q⟩
    apply c_X7_takeTold
    apply zL_of; rw [e_X7_takeTold_0, zck_t (zinN hr (by decide)), zcN (by omega), zel1 r hr, zck_t z1, b2, if_neg zn10, zck_t ez6, s_reaches (by omega) hr b1 b3, Option.bind_some]
    dsimp only
    rw [zbi_t q, if_neg zn10, hc, e1, Option.bind_some]
    dsimp only
    rw [if_pos rfl]; rfl
  rw [q2, zbi_t rfl] at e1
  obtain ⟨g2, g3⟩ := g1 q2
  have h2' := h2.fr ho f1 (fun c c1 c2 => by simp; omega) (by decide) (by decide)
  rcases h2' with ⟨rfl, a1, a2⟩ | ⟨n2, rfl, c1, c2, c3, c4, c5⟩
  · have e : zfnd (some n1) none (fun k => M.1 69 (40 * r + i' + k)) N (nI i') j n = 1 := by simp [zfnd, q, q2]
    rw [e]
    refine ⟨M1, ?_, f1.mono (by decide), fun q => by cases q⟩
    apply c_X7_takeTold
    apply zL_of; rw [e_X7_takeTold_0, zck_t (zinN hr (by decide)), zcN (by omega), zel1 r hr, zck_t z1, b2, if_neg zn10, zck_t ez6, s_reaches (by omega) hr b1 b3, Option.bind_some]
    dsimp only
    rw [zbi_t q, if_neg zn10, hc, e1, Option.bind_some]
    dsimp only
    rw [if_neg zn10, zck_t (zinN ho (by decide)), zcN (by omega), zel1 o ho, zck_t y1, a1, if_pos rfl]; rfl
  cases q3 : zrch n2 j (nI n)
  · have e : zfnd (some n1) (some n2) (fun k => M.1 69 (40 * r + i' + k)) N (nI i') j n = 2 := by simp [zfnd, q, q2, q3]
    rw [e]
    refine ⟨M1, ?_, f1.mono (by decide), fun q => by cases q⟩
    apply c_X7_takeTold
    apply zL_of; rw [e_X7_takeTold_0, zck_t (zinN hr (by decide)), zcN (by omega), zel1 r hr, zck_t z1, b2, if_neg zn10, zck_t ez6, s_reaches (by omega) hr b1 b3, Option.bind_some]
    dsimp only
    rw [zbi_t q, if_neg zn10, hc, e1, Option.bind_some]
    dsimp only
    rw [if_neg zn10, zck_t (zinN ho (by decide)), zcN (by omega), zel1 o ho, zck_t y1, c2, if_neg zn10, zck_t ey6, s_reaches (by omega) ho c1 c3, Option.bind_some]
    dsimp only
    rw [q3, zbi_f (by decide), if_pos rfl]; rfl
  obtain ⟨j', rfl, hj'⟩ := zrch_n c1 hn q3
  obtain ⟨M2, e2, f2, g4⟩ := s_takePays (d := d) (M := M1) (by omega) ho (show j' + n ≤ 40 by omega) hn g2
  have e : zfnd (some n1) (some n2) (fun k => M.1 69 (40 * r + i' + k)) N (nI i') (nI j') n = 0 := by simp [zfnd, q, q2, q3]
  rw [e, zcN (show j' < 2 ^ 31 by omega)]
  refine ⟨M2, ?_, (f1.mono (by decide)).trans (f2.mono (by decide)), fun _ => ⟨?_, fun k hk => ⟨?_, ?_⟩⟩⟩
  · apply c_X7_takeTold
    apply zL_of; rw [e_X7_takeTold_0, zck_t (zinN hr (by decide)), zcN (by omega), zel1 r hr, zck_t z1, b2, if_neg zn10, zck_t ez6, s_reaches (by omega) hr b1 b3, Option.bind_some]
    dsimp only
    rw [zbi_t q, if_neg zn10, hc, e1, Option.bind_some]
    dsimp only
    rw [if_neg zn10, zck_t (zinN ho (by decide)), zcN (by omega), zel1 o ho, zck_t y1, c2, if_neg zn10, zck_t ey6, s_reaches (by omega) ho c1 c3, Option.bind_some]
    dsimp only
    rw [zbi_t q3, if_neg zn10, e2, Option.bind_some]; rfl
  · rw [(f2 63 (by decide)).1]; exact g2
  · rw [(f2 64 (by decide)).1, g3 k hk]
    cases q4 : zmx (fun k => M.1 69 (40 * r + i' + k)) N n with
    | none => rw [q4] at q2; cases q2
    | some m =>
      obtain ⟨c, hc1, hc2⟩ := (zin_iff (by omega)).mp ((zmx_ok hN q4).2 k hk)
      dsimp only at hc2 ⊢
      rw [hc2, zcN (by omega)]
  · rw [g4 k hk, c5 _ (by omega), (f1 69 (by decide)).1, ← Nat.add_assoc]
theorem s_findingOf (hd : 3 ≤ d) (hW : zwf S) (hM : zMod S M) {r o n : Nat} {R1 R2 : Option Nat} (hr : r < 8) (ho : o < 8) (hn : n ≤ 10) (h1 : zRd M r R1) (h2 : zRd M o R2) (i j : Int32) : (zenv zbt d).1 212 [.ref 66, .int (nI r), .int i, .int (nI o), .int j, .int (nI n)] M = some (nI (zfnd R1 R2 (fun k => M.1 69 (40 * r + i.toNatClampNeg + k)) (S 0) i j n), M) := by
  obtain ⟨d, rfl⟩ : ∃ e, d = e + 1 := ⟨d - 1, by omega⟩
  have hN := hW.n
  rcases h1 with ⟨rfl, a1, a2⟩ | ⟨n1, rfl, b1, b2, b3, b4, b5⟩
  · apply c_X8_findingOf
    apply zL_of; rw [e_X8_findingOf_0, zck_t (zinN hr (by decide)), zcN (by omega), a2, if_neg (by decide)]; rfl
  cases q : zrch n1 i (nI n)
  · have e : ∀ it, zfnd (some n1) R2 it (S 0) i j n = 2 := fun it => by simp [zfnd, q]
    rw [e]
    apply c_X8_findingOf
    apply zL_of; rw [e_X8_findingOf_0, zck_t (zinN hr (by decide)), zcN (by omega), b4, if_pos (nI_pos' (by omega)), s_isPlace (by omega) hr b1 b4, Option.bind_some]
    dsimp only
    rw [q, zbi_f (by decide), if_pos rfl]; rfl
  obtain ⟨i', rfl, hi'⟩ := zrch_n b1 hn q
  rw [zcN (show i' < 2 ^ 31 by omega)]
  generalize hit : (fun k => M.1 69 (40 * r + i' + k)) = it
  have hit' : ∀ k, M.1 69 (40 * r + i' + k) = it k := fun k => by rw [← hit]
  have key : ∀ k, k ≤ n → ∀ m, zmx it (S 0) k = some m → zL (zenv zbt d) tb_X8_findingOf cu_X8_findingOf 30 [some (.ref 66), some (.int (nI r)), some (.int (nI i')), some (.int (nI o)), some (.int j), some (.int (nI n)), some (.int (nI m)), some (.int (nI k)), none] [] M (some (.int (nI (zfnd (some n1) R2 it (S 0) (nI i') j n))), M) := by
    apply zup
    · intro m hm
      apply zL_of; rw [e_X8_findingOf_30, if_pos (nI_le (Nat.le_refl _) (by omega)), zck_t (zinN ho (by decide)), zcN (by omega)]
      rcases h2 with ⟨rfl, a1, a2⟩ | ⟨n2, rfl, c1, c2, c3, c4, c5⟩
      · have e : zfnd (some n1) none it (S 0) (nI i') j n = 1 := by simp [zfnd, q, hm]
        rw [a2, if_neg (by decide), e]; rfl
      · rw [c4, if_pos (nI_pos' (by omega)), s_isPlace (by omega) ho c1 c4, Option.bind_some]
        dsimp only
        cases q3 : zrch n2 j (nI n)
        · have e : zfnd (some n1) (some n2) it (S 0) (nI i') j n = 2 := by simp [zfnd, q, hm, q3]
          rw [zbi_f (by decide), if_pos rfl, e]; rfl
        · have e : zfnd (some n1) (some n2) it (S 0) (nI i') j n = 0 := by simp [zfnd, q, hm, q3]
          rw [zbi_t rfl, if_neg zn10, e]; rfl
    · intro k hk ih m hm
      obtain ⟨hm10, -⟩ := zmx_ok hN hm
      have e3 : zmx it (S 0) (k + 1) = none → zfnd (some n1) R2 it (S 0) (nI i') j n = 3 := fun q2 => by
        have := zmx_no' q2 (show k + 1 ≤ n by omega)
        simp [zfnd, q, this]
      apply zL_of; rw [e_X8_findingOf_30, if_neg (nI_ge hk (by omega)), z40, zck_t (zinN (by omega) (by decide)), zcN (by omega), hit' k, s_isCellN (by omega) hW hM, Option.bind_some]
      dsimp only
      cases hz : zin (it k) (S 0)
      · rw [zbi_f (by decide), if_pos rfl, e3 (by rw [zmx, hm]; simp [hz])]; rfl
      · obtain ⟨c, hc, e⟩ := (zin_iff (by omega)).mp hz
        have ec : (it k).toNatClampNeg = c := by rw [e, zcN (by omega)]
        rw [zbi_t rfl, if_neg zn10, e, s_has (by omega) (by omega) (by omega), Option.bind_some]
        dsimp only
        cases hb : m.testBit c
        · have hyes : zmx it (S 0) (k + 1) = some (m ||| 2 ^ c) := by
            rw [zmx, hm]
            simp [hz, ec, hb]
          rw [zbi_f (by decide), if_pos rfl, show zshl 1 (nI c) = nI (2 ^ c) from zshl1 (by omega), zor, nI_1]
          exact zPo_go (ih _ hyes)
        · rw [zbi_t rfl, if_neg zn10, e3 (by rw [zmx, hm]; simp [ec, hb])]; rfl
  apply c_X8_findingOf
  apply zL_of; rw [e_X8_findingOf_0, zck_t (zinN hr (by decide)), zcN (by omega), b4, if_pos (nI_pos' (by omega)), s_isPlace (by omega) hr b1 b4, Option.bind_some]
  dsimp only
  rw [zbi_t q, if_neg zn10]
  exact zPo_go (key 0 (by omega) 0 rfl)
theorem s_areRows (hd : 2 ≤ d) (x y n : Int32) : (zenv zbt d).1 129 [.int x, .int y, .int n] M = some (zbi (zin x 8 = true ∧ zin y 8 = true ∧ 1 ≤ n ∧ n ≤ 10), M) := by
  obtain ⟨d, rfl⟩ : ∃ e, d = e + 1 := ⟨d - 1, by omega⟩
  apply c_X7_areRowsOf
  apply zL_of; rw [e_X7_areRowsOf_0, s_isRowC (by omega), Option.bind_some]
  dsimp only
  cases q1 : zin x 8
  · rw [zbi_f (by decide), if_pos rfl, zbi_f (fun q => by cases q.1)]; rfl
  rw [zbi_t rfl, if_neg zn10, s_isRowC (by omega), Option.bind_some]
  dsimp only
  cases q2 : zin y 8
  · rw [zbi_f (by decide), if_pos rfl, zbi_f (fun q => by cases q.2.1)]; rfl
  rw [zbi_t rfl, if_neg zn10]
  by_cases q3 : n < 1
  · rw [if_pos q3, zbi_f (fun q => absurd q3 (Int32.not_lt.mpr q.2.2.1))]; rfl
  rw [if_neg q3]
  by_cases q4 : 10 < n
  · rw [if_pos q4, zbi_f (fun q => absurd q4 (Int32.not_lt.mpr q.2.2.2))]; rfl
  rw [if_neg q4, zbi_t ⟨rfl, rfl, Int32.not_lt.mp q3, Int32.not_lt.mp q4⟩]; rfl
theorem zMod.wr {T : Nat → Nat} (h : zMod S M) {p v : Nat} (hp : 2 ≤ p) (hT : T p = v) (hn : ∀ k, k ≠ p → T k = S k) : zMod T (zw M 72 p (nI v)) := by
  refine ⟨fun k hk => ?_, fun c hc => ?_⟩
  · by_cases q : k = p
    · rw [q, zw_eq, hT]
    · rw [zw_nk q, hn k q]; exact h.1 k hk
  · rw [hn 0 (by omega)] at hc ⊢
    rw [hn 1 (by omega), zw_nc (by decide)]; exact h.2 c hc
theorem zInv.up72 {M' : ZM} (hI : zInv S M) (hf : zFr [72] M M') (hM : zMod S M') : zInv S M' := by
  obtain ⟨i1, i2, i3, i4, i5, i6, i7, i8, i9, i10⟩ := hI
  exact ⟨i1, i2.fr hf (fun j hj => by simp; omega), hM, i4.fr hf (by decide) (by decide) (by decide), fun r hr => zRow.fr hr (i5 r hr) hf (fun c h1 h2 => by simp; omega) (by decide) (by decide) (by decide), i6.fr hf (by decide) (by decide) (by decide) (by decide), i7.fr hf (by decide) (by decide) (by decide) (by decide) (by decide) (by decide) (by decide), i8.fr hf (by decide) (by decide) (by decide) (by decide) (by decide) (by decide), i9.fr hf (by decide) (by decide) (fun j hj => by simp; omega), i10.fr hf (by decide) (by decide) (fun j hj => by simp; omega)⟩
end ZX46

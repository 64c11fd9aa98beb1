/-! The class and the reference stand alike: what holds between calls -/
/-- rows 0 .. 7 -/
def zRow (M : ZM) (r : Nat) : Prop := (M.1 (2 + r) 1 = 0 ∧ M.1 68 r = -1) ∨ (M.1 (2 + r) 1 = 1 ∧ ∃ n l, n ≤ 40 ∧ l ≤ 2 ∧ M.1 (2 + r) 3 = nI n ∧ M.1 68 r = nI n ∧ M.1 (2 + r) 2 = nI l ∧ M.1 67 r = nI l ∧ ∀ i, i < 40 → M.1 (10 + r) i = M.1 69 (40 * r + i))
def zRows (M : ZM) : Prop := ∀ r, r < 8 → zRow M r
/-- the tape -/
def zTape (M : ZM) : Prop := ∃ n, n ≤ 120 ∧ M.1 18 1 = nI n ∧ M.1 66 6 = nI n ∧ ∀ i, i < n → ∃ v, v ≤ 255 ∧ M.1 19 i = nI v ∧ M.1 71 i = nI v
/-- status, fault, the trace; the reference's constants -/
def zMisc (M : ZM) : Prop := M.1 0 9 = M.1 66 4 ∧ M.1 18 6 = M.1 66 9 ∧ (∃ t, t ≤ 16 ∧ M.1 61 1 = nI t ∧ M.1 66 19 = nI t ∧ ∀ i, i < t → M.1 62 i = M.1 79 i) ∧ (M.2 80 0 = 1431655765 ∧ M.2 80 1 = 858993459 ∧ M.2 80 2 = 252645135 ∧ M.2 80 3 = 16711935 ∧ M.2 80 4 = 65535)
/-- an act, as the class keeps it: done to P, it gave Q -/
def zAct (dd ww bb : Nat) (P Q : Nat → Nat) : Prop :=
  (dd = 0 ∧ ww < P 2 ∧ P (26 + ww) = 0 ∧ Q (26 + ww) ≠ 0 ∧ Q 24 = P 24 + bb ∧ ∀ k, k ≠ 26 + ww → k ≠ 24 → Q k = P k) ∨
  (dd = 1 ∧ ww < P 2 ∧ P (26 + ww) = bb ∧ bb ≠ 0 ∧ Q (26 + ww) = 0 ∧ ∀ k, k ≠ 26 + ww → Q k = P k) ∨
  (dd = 2 ∧ ww < P 0 ∧ (zon P).testBit ww = true ∧ Q 25 = P 25 ||| 2 ^ ww ∧ ∀ k, k ≠ 25 → Q k = P k) ∨
  (dd = 3 ∧ ww < P 0 ∧ P (31 + ww) = bb ∧ ∀ k, k ≠ 31 + ww → Q k = P k) ∨
  (dd = 4 ∧ P 23 = bb ∧ ∀ k, k ≠ 23 → Q k = P k)
/-- acts that can be undone: a of them, P j the sheet ahead of the j-th, P a the sheet now; f the free place of the ring -/
def zActs (S : Nat → Nat) (M : ZM) : Prop := ∃ (a f : Nat) (P : Nat → Nat → Nat), a ≤ 24 ∧ f < 24 ∧ M.1 49 4 = nI a ∧ M.1 66 14 = nI a ∧ M.1 49 3 = nI f ∧ (∀ k, k < 41 → P a k = S k) ∧ ∀ j, j < a → zwf (P j) ∧ (∀ k, k < 18 → M.1 75 (18 * j + k) = nI (P j (23 + k))) ∧ ∃ dd ww bb, bb < 2 ^ 30 ∧ M.1 50 ((f + 24 - a + j) % 24) = nI dd ∧ M.1 51 ((f + 24 - a + j) % 24) = nI ww ∧ M.1 52 ((f + 24 - a + j) % 24) = nI bb ∧ zAct dd ww bb (P j) (P (j + 1))
/-- images -/
def zImg (M : ZM) (k : Nat) : Prop := (M.1 77 k = 0 ∧ M.1 (35 + 7 * k) 1 = 0) ∨ (M.1 77 k = 1 ∧ ∃ T : Nat → Nat, zwf T ∧ 0 < T 0 ∧ zSheet T (35 + 7 * k) M ∧ ∀ j, j < 41 → M.1 76 (41 * k + j) = nI (T j))
def zInv (S : Nat → Nat) (M : ZM) : Prop := zwf S ∧ zSheet S 20 M ∧ zMod S M ∧ zFin S M ∧ zRows M ∧ zTape M ∧ zMisc M ∧ zActs S M ∧ (zImg M 0 ∧ zImg M 1)
/-- the cells that calls use and forget -/
def zScr : List Nat := [27, 28, 29, 30, 31, 32, 33, 56, 57, 58, 59, 60, 63, 64, 65, 70, 73, 78, 81, 82]
theorem zFin.fr {S : Nat → Nat} {cs : List Nat} {M M' : ZM} (hF : zFin S M) (h : zFr cs M M') (h1 : 53 ∉ cs) (h2 : 54 ∉ cs) (h3 : 55 ∉ cs) : zFin S M' := by
  unfold zFin at hF ⊢
  rw [(h 53 h1).1, (h 54 h2).1, (h 55 h3).1]
  exact hF
theorem zRow.fr {cs : List Nat} {M M' : ZM} {r : Nat} (hr : r < 8) (hR : zRow M r) (h : zFr cs M M') (h1 : ∀ c, 2 ≤ c → c < 18 → c ∉ cs) (h2 : 67 ∉ cs) (h3 : 68 ∉ cs) (h4 : 69 ∉ cs) : zRow M' r := by
  unfold zRow at hR ⊢
  rw [(h (2 + r) (h1 _ (by omega) (by omega))).1, (h (10 + r) (h1 _ (by omega) (by omega))).1, (h 67 h2).1, (h 68 h3).1, (h 69 h4).1]
  exact hR
theorem zTape.fr {cs : List Nat} {M M' : ZM} (hT : zTape M) (h : zFr cs M M') (h1 : 18 ∉ cs) (h2 : 66 ∉ cs) (h3 : 19 ∉ cs) (h4 : 71 ∉ cs) : zTape M' := by
  unfold zTape at hT ⊢
  rw [(h 18 h1).1, (h 66 h2).1, (h 19 h3).1, (h 71 h4).1]
  exact hT
theorem zMisc.fr {cs : List Nat} {M M' : ZM} (hT : zMisc M) (h : zFr cs M M') (h1 : 0 ∉ cs) (h2 : 66 ∉ cs) (h3 : 18 ∉ cs) (h4 : 61 ∉ cs) (h5 : 62 ∉ cs) (h6 : 79 ∉ cs) (h7 : 80 ∉ cs) : zMisc M' := by
  unfold zMisc at hT ⊢
  rw [(h 0 h1).1, (h 66 h2).1, (h 18 h3).1, (h 61 h4).1, (h 62 h5).1, (h 79 h6).1, (h 80 h7).2]
  exact hT
theorem zActs.fr {S : Nat → Nat} {cs : List Nat} {M M' : ZM} (hT : zActs S M) (h : zFr cs M M') (h1 : 49 ∉ cs) (h2 : 50 ∉ cs) (h3 : 51 ∉ cs) (h4 : 52 ∉ cs) (h5 : 66 ∉ cs) (h6 : 75 ∉ cs) : zActs S M' := by
  unfold zActs at hT ⊢
  rw [(h 49 h1).1, (h 50 h2).1, (h 51 h3).1, (h 52 h4).1, (h 66 h5).1, (h 75 h6).1]
  exact hT
theorem zImg.fr {cs : List Nat} {M M' : ZM} {k : Nat} (hT : zImg M k) (h : zFr cs M M') (h1 : 77 ∉ cs) (h2 : 76 ∉ cs) (h3 : ∀ j, j < 7 → 35 + 7 * k + j ∉ cs) : zImg M' k := by
  have e0 : M'.1 (35 + 7 * k) = M.1 (35 + 7 * k) := (h _ (h3 0 (by decide))).1
  rcases hT with ⟨a1, a2⟩ | ⟨a1, T, t1, t2, t3, t4⟩
  · exact Or.inl ⟨by rw [(h 77 h1).1]; exact a1, by rw [e0]; exact a2⟩
  · exact Or.inr ⟨by rw [(h 77 h1).1]; exact a1, T, t1, t2, t3.fr h h3, by rw [(h 76 h2).1]; exact t4⟩
/-- what writes only to the cells that are forgotten keeps all -/
theorem zInv.fr {S : Nat → Nat} {M M' : ZM} (hI : zInv S M) (h : zFr zScr M M') : zInv S M' := by
  obtain ⟨i1, i2, i3, i4, i5, i6, i7, i8, i9, i10⟩ := hI
  refine ⟨i1, i2.fr h ?_, i3.fr h (by decide) (by decide), i4.fr h (by decide) (by decide) (by decide), fun r hr => zRow.fr hr (i5 r hr) h ?_ (by decide) (by decide) (by decide), i6.fr h (by decide) (by decide) (by decide) (by decide), i7.fr h (by decide) (by decide) (by decide) (by decide) (by decide) (by decide) (by decide), i8.fr h (by decide) (by decide) (by decide) (by decide) (by decide) (by decide), i9.fr h (by decide) (by decide) ?_, i10.fr h (by decide) (by decide) ?_⟩
  · intro j hj
    simp only [zScr, List.mem_cons, List.not_mem_nil, or_false]
    omega
  · intro c h1 h2
    simp only [zScr, List.mem_cons, List.not_mem_nil, or_false]
    omega
  · intro j hj
    simp only [zScr, List.mem_cons, List.not_mem_nil, or_false]
    omega
  · intro j hj
    simp only [zScr, List.mem_cons, List.not_mem_nil, or_false]
    omega
/-- both answer alike, and stand alike behind it: the class by y1, the reference by y2 -/
def zAl (y1 y2 : Nat) (a1 : List Value) (M : ZM) : Prop := ∀ d, 12 ≤ d → ∃ r M1 M2 S', (zenv zbt d).1 y1 (.ref 0 :: a1) M = some (r, M1) ∧ (zenv zbt d).1 y2 (.ref 66 :: a1) M1 = some (r, M2) ∧ zInv S' M2
/-- where both only read -/
theorem zAl.of {y1 y2 : Nat} {a1 : List Value} {S : Nat → Nat} {M : ZM} (hI : zInv S M) {r : Int32} (h1 : ∀ d, 12 ≤ d → ∃ M1, (zenv zbt d).1 y1 (.ref 0 :: a1) M = some (r, M1) ∧ zFr zScr M M1) (h2 : ∀ d M1, 12 ≤ d → zInv S M1 → ∃ M2, (zenv zbt d).1 y2 (.ref 66 :: a1) M1 = some (r, M2) ∧ zFr zScr M1 M2) : zAl y1 y2 a1 M := by
  intro d hd
  obtain ⟨M1, e1, f1⟩ := h1 d hd
  have hI1 := hI.fr f1
  obtain ⟨M2, e2, f2⟩ := h2 d M1 hd hI1
  exact ⟨r, M1, M2, S, e1, e2, hI1.fr f2⟩

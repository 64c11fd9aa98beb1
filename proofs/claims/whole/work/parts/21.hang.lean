/-! Which sets hang together, by the sheet's form: read off once -/
def zgS (w n : Nat) : Nat → Nat := fun k => match k with
  | 0 => n
  | _ => w
theorem zgS_nb (S : Nat → Nat) (p : Nat) : znb S p = znb (zgS (S 1) (S 0)) p := rfl
theorem zgS_it (S : Nat → Nat) (W p : Nat) : ∀ k, zit S W p k = zit (zgS (S 1) (S 0)) W p k
  | 0 => rfl
  | k + 1 => by rw [zit, zit, zgrow, zgrow, zgS_it S W p k, zgS_nb S]
theorem zgS_hang (S : Nat → Nat) (a : Nat) : zhang S a = zhang (zgS (S 1) (S 0)) a := by
  unfold zhang zcomp
  rw [zgS_it S]
def zany (f : Nat → Bool) : Nat → Bool
  | 0 => false
  | k + 1 => zany f k || f k
theorem zany_iff {f : Nat → Bool} : ∀ {n : Nat}, zany f n = true ↔ ∃ i, i < n ∧ f i = true
  | 0 => by simp [zany]
  | n + 1 => by
    rw [zany, Bool.or_eq_true, zany_iff]
    constructor
    · rintro (⟨i, h1, h2⟩ | h)
      · exact ⟨i, by omega, h2⟩
      · exact ⟨n, by omega, h⟩
    · rintro ⟨i, h1, h2⟩
      by_cases e : i = n
      · subst e; exact Or.inr h2
      · exact Or.inl ⟨i, by omega, h2⟩
def zHrec (H w n a : Nat) : Bool := H.testBit a == (zpop a == 1 || zany (fun c => a.testBit c && ((znx w n c &&& a) != 0 && H.testBit (a ^^^ 2 ^ c))) n)
def zH_1_1 : Nat := 2
set_option maxRecDepth 100000 in
theorem zHa_1_1 : ∀ a, a < 2 → zhang (zgS 1 1) a = zH_1_1.testBit a := by decide +kernel
set_option maxRecDepth 100000 in
theorem zHb_1_1 : ∀ a, a < 2 → a ≠ 0 → zHrec zH_1_1 1 1 a = true := by decide +kernel
set_option maxRecDepth 100000 in
theorem zHc_1_1 : zsum (fun a => (zH_1_1.testBit a).toNat) 2 ≤ 275 := by decide +kernel
def zH_1_2 : Nat := 14
set_option maxRecDepth 100000 in
theorem zHa_1_2 : ∀ a, a < 4 → zhang (zgS 1 2) a = zH_1_2.testBit a := by decide +kernel
set_option maxRecDepth 100000 in
theorem zHb_1_2 : ∀ a, a < 4 → a ≠ 0 → zHrec zH_1_2 1 2 a = true := by decide +kernel
set_option maxRecDepth 100000 in
theorem zHc_1_2 : zsum (fun a => (zH_1_2.testBit a).toNat) 4 ≤ 275 := by decide +kernel
def zH_1_3 : Nat := 222
set_option maxRecDepth 100000 in
theorem zHa_1_3 : ∀ a, a < 8 → zhang (zgS 1 3) a = zH_1_3.testBit a := by decide +kernel
set_option maxRecDepth 100000 in
theorem zHb_1_3 : ∀ a, a < 8 → a ≠ 0 → zHrec zH_1_3 1 3 a = true := by decide +kernel
set_option maxRecDepth 100000 in
theorem zHc_1_3 : zsum (fun a => (zH_1_3.testBit a).toNat) 8 ≤ 275 := by decide +kernel
def zH_1_4 : Nat := 53726
set_option maxRecDepth 100000 in
theorem zHa_1_4 : ∀ a, a < 16 → zhang (zgS 1 4) a = zH_1_4.testBit a := by decide +kernel
set_option maxRecDepth 100000 in
theorem zHb_1_4 : ∀ a, a < 16 → a ≠ 0 → zHrec zH_1_4 1 4 a = true := by decide +kernel
set_option maxRecDepth 100000 in
theorem zHc_1_4 : zsum (fun a => (zH_1_4.testBit a).toNat) 16 ≤ 275 := by decide +kernel
def zH_1_5 : Nat := 3506557406
set_option maxRecDepth 100000 in
theorem zHa_1_5 : ∀ a, a < 32 → zhang (zgS 1 5) a = zH_1_5.testBit a := by decide +kernel
set_option maxRecDepth 100000 in
theorem zHb_1_5 : ∀ a, a < 32 → a ≠ 0 → zHrec zH_1_5 1 5 a = true := by decide +kernel
set_option maxRecDepth 100000 in
theorem zHc_1_5 : zsum (fun a => (zH_1_5.testBit a).toNat) 32 ≤ 275 := by decide +kernel
def zH_1_6 : Nat := 15060318636705173982
set_option maxRecDepth 100000 in
theorem zHa_1_6 : ∀ a, a < 64 → zhang (zgS 1 6) a = zH_1_6.testBit a := by decide +kernel
set_option maxRecDepth 100000 in
theorem zHb_1_6 : ∀ a, a < 64 → a ≠ 0 → zHrec zH_1_6 1 6 a = true := by decide +kernel
set_option maxRecDepth 100000 in
theorem zHc_1_6 : zsum (fun a => (zH_1_6.testBit a).toNat) 64 ≤ 275 := by decide +kernel
def zH_2_2 : Nat := 14
set_option maxRecDepth 100000 in
theorem zHa_2_2 : ∀ a, a < 4 → zhang (zgS 2 2) a = zH_2_2.testBit a := by decide +kernel
set_option maxRecDepth 100000 in
theorem zHb_2_2 : ∀ a, a < 4 → a ≠ 0 → zHrec zH_2_2 2 2 a = true := by decide +kernel
set_option maxRecDepth 100000 in
theorem zHc_2_2 : zsum (fun a => (zH_2_2.testBit a).toNat) 4 ≤ 275 := by decide +kernel
def zH_2_4 : Nat := 64958
set_option maxRecDepth 100000 in
theorem zHa_2_4 : ∀ a, a < 16 → zhang (zgS 2 4) a = zH_2_4.testBit a := by decide +kernel
set_option maxRecDepth 100000 in
theorem zHb_2_4 : ∀ a, a < 16 → a ≠ 0 → zHrec zH_2_4 2 4 a = true := by decide +kernel
set_option maxRecDepth 100000 in
theorem zHc_2_4 : zsum (fun a => (zH_2_4.testBit a).toNat) 16 ≤ 275 := by decide +kernel
def zH_2_6 : Nat := 18280670547248545214
set_option maxRecDepth 100000 in
theorem zHa_2_6 : ∀ a, a < 64 → zhang (zgS 2 6) a = zH_2_6.testBit a := by decide +kernel
set_option maxRecDepth 100000 in
theorem zHb_2_6 : ∀ a, a < 64 → a ≠ 0 → zHrec zH_2_6 2 6 a = true := by decide +kernel
set_option maxRecDepth 100000 in
theorem zHc_2_6 : zsum (fun a => (zH_2_6.testBit a).toNat) 64 ≤ 275 := by decide +kernel
def zH_2_8 : Nat := 114749628816165618554188996725246874259178681627210357437464719472378317503934
set_option maxRecDepth 100000 in
theorem zHa_2_8 : ∀ a, a < 256 → zhang (zgS 2 8) a = zH_2_8.testBit a := by decide +kernel
set_option maxRecDepth 100000 in
theorem zHb_2_8 : ∀ a, a < 256 → a ≠ 0 → zHrec zH_2_8 2 8 a = true := by decide +kernel
set_option maxRecDepth 100000 in
theorem zHc_2_8 : zsum (fun a => (zH_2_8.testBit a).toNat) 256 ≤ 275 := by decide +kernel
def zH_2_10 : Nat := 178150874821887903563799114744615334965453651441541491452328529250356045789227378633410731488467285076559771615146389304768466510162225277618656142629887009617371538677209972596440941266642053409099061112256854842425234159794713678736857055392123564651621881174042232784326650570756240537531073032118605053374
set_option maxRecDepth 100000 in
theorem zHa_2_10 : ∀ a, a < 1024 → zhang (zgS 2 10) a = zH_2_10.testBit a := by decide +kernel
set_option maxRecDepth 100000 in
theorem zHb_2_10 : ∀ a, a < 1024 → a ≠ 0 → zHrec zH_2_10 2 10 a = true := by decide +kernel
set_option maxRecDepth 100000 in
theorem zHc_2_10 : zsum (fun a => (zH_2_10.testBit a).toNat) 1024 ≤ 275 := by decide +kernel
def zH_3_3 : Nat := 222
set_option maxRecDepth 100000 in
theorem zHa_3_3 : ∀ a, a < 8 → zhang (zgS 3 3) a = zH_3_3.testBit a := by decide +kernel
set_option maxRecDepth 100000 in
theorem zHb_3_3 : ∀ a, a < 8 → a ≠ 0 → zHrec zH_3_3 3 3 a = true := by decide +kernel
set_option maxRecDepth 100000 in
theorem zHc_3_3 : zsum (fun a => (zH_3_3.testBit a).toNat) 8 ≤ 275 := by decide +kernel
def zH_3_6 : Nat := 18437034088147553246
set_option maxRecDepth 100000 in
theorem zHa_3_6 : ∀ a, a < 64 → zhang (zgS 3 6) a = zH_3_6.testBit a := by decide +kernel
set_option maxRecDepth 100000 in
theorem zHb_3_6 : ∀ a, a < 64 → a ≠ 0 → zHrec zH_3_6 3 6 a = true := by decide +kernel
set_option maxRecDepth 100000 in
theorem zHc_3_6 : zsum (fun a => (zH_3_6.testBit a).toNat) 64 ≤ 275 := by decide +kernel
def zH_3_9 : Nat := 13400848634042137632852363757410395972051084856252028873377918007575379813167018982718304818235672824770648723812859961016375239038874503209556830027877342
set_option maxRecDepth 100000 in
theorem zHa_3_9 : ∀ a, a < 512 → zhang (zgS 3 9) a = zH_3_9.testBit a := by decide +kernel
set_option maxRecDepth 100000 in
theorem zHb_3_9 : ∀ a, a < 512 → a ≠ 0 → zHrec zH_3_9 3 9 a = true := by decide +kernel
set_option maxRecDepth 100000 in
theorem zHc_3_9 : zsum (fun a => (zH_3_9.testBit a).toNat) 512 ≤ 275 := by decide +kernel
def zH_4_4 : Nat := 53726
set_option maxRecDepth 100000 in
theorem zHa_4_4 : ∀ a, a < 16 → zhang (zgS 4 4) a = zH_4_4.testBit a := by decide +kernel
set_option maxRecDepth 100000 in
theorem zHb_4_4 : ∀ a, a < 16 → a ≠ 0 → zHrec zH_4_4 4 4 a = true := by decide +kernel
set_option maxRecDepth 100000 in
theorem zHc_4_4 : zsum (fun a => (zH_4_4.testBit a).toNat) 16 ≤ 275 := by decide +kernel
def zH_4_8 : Nat := 115791853647875237840212828867108654545037381226814358304845071879878080188894
set_option maxRecDepth 100000 in
theorem zHa_4_8 : ∀ a, a < 256 → zhang (zgS 4 8) a = zH_4_8.testBit a := by decide +kernel
set_option maxRecDepth 100000 in
theorem zHb_4_8 : ∀ a, a < 256 → a ≠ 0 → zHrec zH_4_8 4 8 a = true := by decide +kernel
set_option maxRecDepth 100000 in
theorem zHc_4_8 : zsum (fun a => (zH_4_8.testBit a).toNat) 256 ≤ 275 := by decide +kernel
def zH_5_5 : Nat := 3506557406
set_option maxRecDepth 100000 in
theorem zHa_5_5 : ∀ a, a < 32 → zhang (zgS 5 5) a = zH_5_5.testBit a := by decide +kernel
set_option maxRecDepth 100000 in
theorem zHb_5_5 : ∀ a, a < 32 → a ≠ 0 → zHrec zH_5_5 5 5 a = true := by decide +kernel
set_option maxRecDepth 100000 in
theorem zHc_5_5 : zsum (fun a => (zH_5_5.testBit a).toNat) 32 ≤ 275 := by decide +kernel
def zH_5_10 : Nat := 179769313480650816773614536771016052552697678524892991189260925813553712699070739900772086727709540192921215734072214455980819359721285002104753571087572927609229922118593510898464771238462293746142304154430925960758464377525040054919603844165304288724697461348306469235980574595905273146108056317606777442782
set_option maxRecDepth 100000 in
theorem zHa_5_10 : ∀ a, a < 1024 → zhang (zgS 5 10) a = zH_5_10.testBit a := by decide +kernel
set_option maxRecDepth 100000 in
theorem zHb_5_10 : ∀ a, a < 1024 → a ≠ 0 → zHrec zH_5_10 5 10 a = true := by decide +kernel
set_option maxRecDepth 100000 in
theorem zHc_5_10 : zsum (fun a => (zH_5_10.testBit a).toNat) 1024 ≤ 275 := by decide +kernel
def zH_6_6 : Nat := 15060318636705173982
set_option maxRecDepth 100000 in
theorem zHa_6_6 : ∀ a, a < 64 → zhang (zgS 6 6) a = zH_6_6.testBit a := by decide +kernel
set_option maxRecDepth 100000 in
theorem zHb_6_6 : ∀ a, a < 64 → a ≠ 0 → zHrec zH_6_6 6 6 a = true := by decide +kernel
set_option maxRecDepth 100000 in
theorem zHc_6_6 : zsum (fun a => (zH_6_6.testBit a).toNat) 64 ≤ 275 := by decide +kernel
/-- of every form there is a number that tells the sets that hang together -/
theorem zH_all : ∀ q ∈ zshp, ∃ H, (∀ a, a < 2 ^ q.2 → zhang (zgS q.1 q.2) a = H.testBit a) ∧ (∀ a, a < 2 ^ q.2 → a ≠ 0 → zHrec H q.1 q.2 a = true) ∧ zsum (fun a => (H.testBit a).toNat) (2 ^ q.2) ≤ 275 := by
  intro q hq
  simp only [zshp, List.mem_cons, List.not_mem_nil, or_false] at hq
  rcases hq with rfl | rfl | rfl | rfl | rfl | rfl | rfl | rfl | rfl | rfl | rfl | rfl | rfl | rfl | rfl | rfl | rfl | rfl | rfl
  · exact ⟨zH_1_1, zHa_1_1, zHb_1_1, zHc_1_1⟩
  · exact ⟨zH_1_2, zHa_1_2, zHb_1_2, zHc_1_2⟩
  · exact ⟨zH_1_3, zHa_1_3, zHb_1_3, zHc_1_3⟩
  · exact ⟨zH_1_4, zHa_1_4, zHb_1_4, zHc_1_4⟩
  · exact ⟨zH_1_5, zHa_1_5, zHb_1_5, zHc_1_5⟩
  · exact ⟨zH_1_6, zHa_1_6, zHb_1_6, zHc_1_6⟩
  · exact ⟨zH_2_2, zHa_2_2, zHb_2_2, zHc_2_2⟩
  · exact ⟨zH_2_4, zHa_2_4, zHb_2_4, zHc_2_4⟩
  · exact ⟨zH_2_6, zHa_2_6, zHb_2_6, zHc_2_6⟩
  · exact ⟨zH_2_8, zHa_2_8, zHb_2_8, zHc_2_8⟩
  · exact ⟨zH_2_10, zHa_2_10, zHb_2_10, zHc_2_10⟩
  · exact ⟨zH_3_3, zHa_3_3, zHb_3_3, zHc_3_3⟩
  · exact ⟨zH_3_6, zHa_3_6, zHb_3_6, zHc_3_6⟩
  · exact ⟨zH_3_9, zHa_3_9, zHb_3_9, zHc_3_9⟩
  · exact ⟨zH_4_4, zHa_4_4, zHb_4_4, zHc_4_4⟩
  · exact ⟨zH_4_8, zHa_4_8, zHb_4_8, zHc_4_8⟩
  · exact ⟨zH_5_5, zHa_5_5, zHb_5_5, zHc_5_5⟩
  · exact ⟨zH_5_10, zHa_5_10, zHb_5_10, zHc_5_10⟩
  · exact ⟨zH_6_6, zHa_6_6, zHb_6_6, zHc_6_6⟩
theorem zhang_rec {S : Nat → Nat} (hW : zwf S) {a : Nat} (ha : a < 2 ^ S 0) (h0 : a ≠ 0) : zhang S a = (zpop a == 1 || zany (fun c => a.testBit c && ((znx (S 1) (S 0) c &&& a) != 0 && zhang S (a ^^^ 2 ^ c))) (S 0)) := by
  have hn : 0 < S 0 := by
    rcases Nat.eq_zero_or_pos (S 0) with h | h
    · rw [h] at ha; omega
    · exact h
  obtain ⟨H, h1, h2, -⟩ := zH_all _ (hW.sh hn)
  dsimp only at h1 h2
  have h3 := h2 a ha h0
  unfold zHrec at h3
  rw [beq_iff_eq] at h3
  rw [zgS_hang S, h1 a ha, h3]
  congr 1
  have key : ∀ n, n ≤ S 0 → zany (fun c => a.testBit c && ((znx (S 1) (S 0) c &&& a) != 0 && H.testBit (a ^^^ 2 ^ c))) n = zany (fun c => a.testBit c && ((znx (S 1) (S 0) c &&& a) != 0 && zhang S (a ^^^ 2 ^ c))) n := by
    intro n
    induction n with
    | zero => intro _; rfl
    | succ n ih =>
      intro hn
      rw [zany, zany, ih (by omega), zgS_hang S (a ^^^ 2 ^ n), h1 (a ^^^ 2 ^ n) (Nat.xor_lt_two_pow ha (Nat.pow_lt_pow_right (by decide) (by omega)))]
  exact key _ (Nat.le_refl _)
/-- the sets that hang together, from the least on -/
def zHL (S : Nat → Nat) : List Nat := (List.range (2 ^ S 0)).filter (fun a => zhang S a)
theorem zHL_len {S : Nat → Nat} (hW : zwf S) : (zHL S).length ≤ 275 := by
  have key : ∀ (f : Nat → Bool) (g : Nat → Nat) (n : Nat), (∀ a, a < n → (f a).toNat = g a) → ((List.range n).filter f).length = zsum g n := by
    intro f g n
    induction n with
    | zero => intro _; rfl
    | succ n ih =>
      intro h
      rw [List.range_succ, List.filter_append, List.length_append, ih (fun a ha => h a (by omega)), zsum, ← h n (by omega)]
      cases hf : f n <;> simp [hf]
  rcases hW.2.2.1 with h | h
  · have e : zHL S = [] := by
      unfold zHL
      rw [h]
      simp [List.range_succ, zhang]
    rw [e]; decide
  · obtain ⟨H, h1, -, h3⟩ := zH_all _ h
    unfold zHL
    rw [key _ (fun a => (H.testBit a).toNat) _ (fun a ha => by rw [zgS_hang S, h1 a ha])]
    exact h3

/-! Going through the pieces: the class by its list, the reference by all sets -/
theorem ztake_succ {α : Type} {L : List Nat} {g : α → Nat → α} {a0 : α} {i x : Nat} (h : L[i]? = some x) : (L.take (i + 1)).foldl g a0 = g ((L.take i).foldl g a0) x := by
  rw [List.take_succ, h, List.foldl_append]
  rfl
theorem ztake_all {α : Type} {L : List Nat} {g : α → Nat → α} {a0 : α} : (L.take L.length).foldl g a0 = L.foldl g a0 := by rw [List.take_length]
theorem zrange_succ {α : Type} {g : α → Nat → α} {a0 : α} {k : Nat} : (List.range (k + 1)).foldl g a0 = g ((List.range k).foldl g a0) k := by
  rw [List.range_succ, List.foldl_append]
  rfl
/-- what goes through all sets and looks at those that hang together goes through their list -/
theorem zfold_HL {α : Type} {S : Nat → Nat} {g g' : α → Nat → α} {a0 : α} (h : ∀ a s, s < 2 ^ S 0 → g' a s = if zhang S s then g a s else a) : (List.range (2 ^ S 0)).foldl g' a0 = (zHL S).foldl g a0 := by
  unfold zHL
  have key : ∀ n, n ≤ 2 ^ S 0 → (List.range n).foldl g' a0 = ((List.range n).filter (fun a => zhang S a)).foldl g a0 := by
    intro n
    induction n with
    | zero => intro _; rfl
    | succ n ih =>
      intro hn
      rw [zrange_succ, ih (by omega), List.range_succ, List.filter_append, List.foldl_append, h _ n (by omega)]
      cases hz : zhang S n <;> simp [hz]
  exact key _ (Nat.le_refl _)
/-- a set lies on the sheet -/
def zheld (S : Nat → Nat) (s : Nat) : Bool := zdif s (zon S) == 0
theorem zheld_gone {S : Nat → Nat} {s : Nat} (hs : s < 2 ^ S 0) : s &&& zgone S = 0 ↔ zheld S s = true := by
  unfold zheld
  rw [beq_iff_eq, zdif_0]
  unfold zon
  constructor
  · intro h i hi
    rw [zdif_bit]
    have h1 : (2 ^ S 0 - 1).testBit i = true := by
      rw [Nat.testBit_two_pow_sub_one]
      refine decide_eq_true (Nat.lt_of_not_le fun q => ?_)
      rw [Nat.testBit_lt_two_pow (Nat.lt_of_lt_of_le hs (Nat.pow_le_pow_right (by decide) q))] at hi
      cases hi
    have h2 := congrArg (fun z => z.testBit i) h
    simp only [Nat.testBit_and, Nat.zero_testBit, hi, Bool.true_and] at h2
    rw [h1, h2]; rfl
  · intro h
    apply Nat.eq_of_testBit_eq
    intro i
    rw [Nat.testBit_and, Nat.zero_testBit]
    cases hi : s.testBit i
    · rfl
    · have h2 := h i hi
      rw [zdif_bit, Bool.and_eq_true] at h2
      cases hg : (zgone S).testBit i
      · rfl
      · rw [hg] at h2; cases h2.2
/-- a piece by which a customer could be served -/
def zfit (S : Nat → Nat) (c s : Nat) : Bool := zheld S s && (decide (S (13 + c) ≤ zpay S s) && decide (zpay S s ≤ S (18 + c)))
/-- the reference's board, its upper half: what a set pays, and 1 more, if it hangs together -/
def zSv (S : Nat → Nat) (M : ZM) : Prop := ∀ s, s < 2 ^ S 0 → zlshr (M.2 78 s) 32 = lN (if zhang S s then zpay S s + 1 else 0)
theorem ztb (n : Nat) : (lN n).toBitVec = BitVec.ofNat 64 n := rfl
theorem zlinj {a b : Int64} (h : a.toBitVec = b.toBitVec) : a = b := Int64.toBitVec_inj.mp h
theorem zlc : ∀ k, k < 64 → ((nI k).toInt64 &&& 63) = lN k := by decide +kernel
theorem zlsm : ∀ k, k < 64 → (BitVec.ofNat 64 k).smod 64 = BitVec.ofNat 64 k := by decide +kernel
theorem zlcnt : ∀ k, k < 64 → (((nI k).toInt64 &&& 63).toBitVec.smod 64).toNat = k := by decide +kernel
theorem zlshrN {n k : Nat} (hn : n < 2 ^ 63) (hk : k < 64) : zlshr (lN n) (nI k) = lN (n / 2 ^ k) := by
  apply Int64.toInt_inj.mp
  have h2 : n / 2 ^ k ≤ n := Nat.div_le_self _ _
  show ((lN n).toBitVec.sshiftRight ((((nI k).toInt64 &&& 63).toBitVec.smod 64).toNat)).toInt = _
  rw [zlcnt k hk, BitVec.toInt_sshiftRight]
  show (lN n).toInt >>> k = _
  rw [pk_lT hn, pk_lT (by omega), Int.shiftRight_eq_div_pow]
  rfl
theorem zlshlN (n : Nat) {k : Nat} (hk : k < 64) : zlshl (lN n) (nI k) = lN (n * 2 ^ k) := by
  unfold zlshl
  rw [zlc k hk]
  apply zlinj
  rw [Int64.toBitVec_shiftLeft, ztb, ztb, ztb, zlsm k hk]
  apply BitVec.eq_of_toNat_eq
  rw [BitVec.shiftLeft_eq', BitVec.toNat_shiftLeft, BitVec.toNat_ofNat, BitVec.toNat_ofNat, BitVec.toNat_ofNat, Nat.mod_eq_of_lt (show k < 2 ^ 64 by omega), Nat.shiftLeft_eq, Nat.mul_mod, Nat.mod_mod, ← Nat.mul_mod]
theorem zlpow {p : Nat} (hp : p < 1024) : zlshl (Int32.toInt64 (nI p)) 32 = lN (p * 2 ^ 32) := by
  rw [nI_l (by omega)]
  exact zlshlN p (by decide)
theorem zlhi {p c : Nat} (hp : p < 1024) (hc : c < 2 ^ 32) : zlshr (lN (p * 2 ^ 32 + c)) 32 = lN p := by
  have h := zlshrN (n := p * 2 ^ 32 + c) (k := 32) (by omega) (by decide)
  rw [show (p * 2 ^ 32 + c) / 2 ^ 32 = p by omega] at h
  exact h
section ZX12
variable {d : Nat} {M : ZM} {S : Nat → Nat} {b : Nat}
theorem s_surveys (hd : 4 ≤ d) (hW : zwf S) (hM : zMod S M) : ∃ M', (zenv zbt d).2.2 194 [.ref 66] M = some M' ∧ zFr [78] M M' ∧ (∀ s, s < 2 ^ S 0 → M'.2 78 s = lN ((if zhang S s then zpay S s + 1 else 0) * 2 ^ 32)) := by
  obtain ⟨d, rfl⟩ : ∃ e, d = e + 1 := ⟨d - 1, by omega⟩
  have hn10 := hW.n
  have hp := zpow10 hn10
  have key : ∀ k, k ≤ 2 ^ S 0 → ∀ Mk, zFr [78] M Mk → (∀ s, s < k → Mk.2 78 s = lN ((if zhang S s then zpay S s + 1 else 0) * 2 ^ 32)) → ∃ M', zL (zenv zbt d) tb_X8_surveys cu_X8_surveys 2 [some (.ref 66), some (.int (nI k))] [] Mk (none, M') ∧ zFr [78] M M' ∧ (∀ s, s < 2 ^ S 0 → M'.2 78 s = lN ((if zhang S s then zpay S s + 1 else 0) * 2 ^ 32)) := by
    have sh : zshl 1 (nI (S 0)) = nI (2 ^ S 0) := zshl1 (by omega)
    apply zup
    · intro Mk hf hv
      refine ⟨Mk, ?_, hf, hv⟩
      have hMk := hM.fr hf (by decide) (by decide)
      apply zL_of; rw [e_X8_surveys_2, hMk.1 0 (by decide), sh, if_pos (nI_le (Nat.le_refl _) (by omega))]; rfl
    · intro k hk ih Mk hf hv
      have hMk := hM.fr hf (by decide) (by decide)
      have hpay := hW.pay k
      have step : ∀ v, v = lN ((if zhang S k then zpay S k + 1 else 0) * 2 ^ 32) → ∀ s, s < k + 1 → (zwl Mk 78 k v).2 78 s = lN ((if zhang S s then zpay S s + 1 else 0) * 2 ^ 32) := by
        intro v hv2 s hs
        rw [zwl_at]
        by_cases e : s = k
        · subst e; rw [if_pos ⟨rfl, rfl⟩, hv2]
        · rw [if_neg (fun q => e q.2)]; exact hv s (by omega)
      cases hz : zhang S k
      · obtain ⟨M', h1, h2, h3⟩ := ih (zwl Mk 78 k 0) (hf.wl (by decide)) (step 0 (by rw [hz]; simp only [Bool.false_eq_true, if_false, Nat.zero_mul]; rfl))
        refine ⟨M', ?_, h2, h3⟩
        apply zL_of; rw [e_X8_surveys_2, hMk.1 0 (by decide), sh, if_neg (nI_ge hk (by omega)), s_hangs (by omega) hW hMk (by omega), Option.bind_some]
        dsimp only
        rw [zbi_f (by rw [hz]; decide), if_pos rfl, zck_t (zinN (by omega) (by decide)), zcN (by omega)]
        apply zPo_go
        simpa only [zlit, nI_add] using h1
      · obtain ⟨M', h1, h2, h3⟩ := ih (zwl Mk 78 k (lN ((zpay S k + 1) * 2 ^ 32))) (hf.wl (by decide)) (step _ (by rw [hz]; rfl))
        refine ⟨M', ?_, h2, h3⟩
        apply zL_of; rw [e_X8_surveys_2, hMk.1 0 (by decide), sh, if_neg (nI_ge hk (by omega)), s_hangs (by omega) hW hMk (by omega), Option.bind_some]
        dsimp only
        rw [zbi_t hz, if_neg zn10, s_pays (by omega) hW hMk (by omega), Option.bind_some]
        dsimp only
        rw [zck_t (zinN (by omega) (by decide)), zcN (by omega), nI_1 (zpay S k), zlpow (by omega)]
        apply zPo_go
        simpa only [zlit, nI_add] using h1
  obtain ⟨M', h1, h2, h3⟩ := key 0 (Nat.zero_le _) M zFr.rf (fun s hs => by omega)
  refine ⟨M', ?_, h2, h3⟩
  apply c_X8_surveys
  apply zL_of; rw [e_X8_surveys_0]
  exact zPo_go h1
/-- what a set pays as the reference finds it on the board: -1, if it isn't a piece -/
theorem s_paysBy (hd : 2 ≤ d) (hW : zwf S) (hM : zMod S M) (hB : zSv S M) {s : Nat} (hs : s < 2 ^ S 0) : (zenv zbt d).1 195 [.ref 66, .int (nI s)] M = some (if zheld S s && zhang S s then nI (zpay S s) else -1, M) := by
  obtain ⟨d, rfl⟩ : ∃ e, d = e + 1 := ⟨d - 1, by omega⟩
  have hn10 := hW.n
  have hp := zpow10 hn10
  have hpay := hW.pay s
  have hand : s &&& zgone S < 2 ^ 10 := Nat.lt_of_le_of_lt Nat.and_le_left (by omega)
  apply c_X8_paysBy
  apply zL_of; rw [e_X8_paysBy_0, s_gone (by omega) hM, Option.bind_some]
  dsimp only
  rw [zand]
  by_cases hh : s &&& zgone S = 0
  · rw [hh, if_pos (show nI 0 = (0 : Int32) from rfl), zck_t (zinN (by omega) (by decide)), zcN (by omega), hB s hs, (zheld_gone hs).mp hh]
    cases hz : zhang S s
    · rfl
    · simp only [if_true, Bool.and_self, lN_i]
      show zPo _ _ _ (some (.inl (some (.int (nI (zpay S s + 1) - nI 1)), M))) _
      rw [pk_sub (by omega)]
      rfl
  · rw [if_neg (nI_ne0 (by omega) (by omega))]
    have : zheld S s = false := by
      cases q : zheld S s
      · rfl
      · exact absurd ((zheld_gone hs).mpr q) hh
    rw [this]
    rfl
theorem s_fitsFor (hd : 3 ≤ d) (hW : zwf S) (hM : zMod S M) (hB : zSv S M) {s c : Nat} (hs : s < 2 ^ S 0) (hc : c < S 2) : (zenv zbt d).1 199 [.ref 66, .int (nI c), .int (nI s)] M = some (zbi (zhang S s = true ∧ zfit S c s = true), M) := by
  obtain ⟨d, rfl⟩ : ∃ e, d = e + 1 := ⟨d - 1, by omega⟩
  have hm5 := hW.m
  have hpay := hW.pay s
  obtain ⟨l1, l2⟩ := hW.2.2.2.2.2.1 c hc
  apply c_X8_fitsFor
  apply zL_of; rw [e_X8_fitsFor_0, s_paysBy (by omega) hW hM hB hs, Option.bind_some]
  dsimp only
  simp only [zlit, nI_add]
  rw [zck_t (zinN (by omega) (by decide)), zck_t (zinN (by omega) (by decide)), hM.at (by omega), hM.at (by omega), s_in (by omega), Option.bind_some]
  dsimp only
  rw [zck_t zbi_01]
  show (some (Value.int _), M) = (some (Value.int _), M)
  congr 3
  by_cases h : (zheld S s && zhang S s) = true
  · rw [if_pos h]
    rw [Bool.and_eq_true] at h
    unfold zbi zfit
    simp only [h.1, h.2, nI_leI (show S (13 + c) < 2 ^ 31 by omega) (show zpay S s < 2 ^ 31 by omega), nI_leI (show zpay S s < 2 ^ 31 by omega) (show S (18 + c) < 2 ^ 31 by omega), Bool.true_and, Bool.and_eq_true, decide_eq_true_eq, true_and]
  · rw [if_neg h, zbi_f, zbi_f]
    · rintro ⟨h1, h2⟩
      unfold zfit at h2
      rw [Bool.and_eq_true] at h2
      exact h (by rw [h1, h2.1]; rfl)
    · rintro ⟨h1, -⟩
      have h3 : (nI (S (13 + c))).toInt ≤ (-nI 1).toInt := Int32.le_iff_toInt_le.mp h1
      rw [nI_toInt (by omega)] at h3
      have h4 : (-nI 1).toInt = -1 := by decide
      rw [h4] at h3
      omega
/-- an int is a piece of the sheet -/
def zpc (S : Nat → Nat) (x : Int32) : Bool := decide (0 < x) && (zheld S x.toNatClampNeg && zhang S x.toNatClampNeg)
theorem zheld_lt {s : Nat} (h : zheld S s = true) : s < 2 ^ S 0 := by
  unfold zheld at h
  rw [beq_iff_eq, zdif_0] at h
  exact Nat.lt_of_le_of_lt (Nat.le_of_testBit h) zon_lt
theorem zpos_of {x : Int32} (h : ¬ x ≤ 0) : ∃ s, s < 2 ^ 31 ∧ 0 < s ∧ x = nI s := by
  obtain ⟨s, h1, h2⟩ := nI_of (x := x) (fun q => h (Int32.le_of_lt q))
  refine ⟨s, h1, ?_, h2⟩
  rcases Nat.eq_zero_or_pos s with e | e
  · exfalso
    apply h
    rw [h2, e]
    decide
  · exact e
theorem s_isPieceM (hd : 4 ≤ d) (hW : zwf S) (hM : zMod S M) (x : Int32) : (zenv zbt d).1 177 [.ref 66, .int x] M = some (zbi (zpc S x = true), M) := by
  obtain ⟨d, rfl⟩ : ∃ e, d = e + 1 := ⟨d - 1, by omega⟩
  have hp := zpow10 hW.n
  apply c_X8_isPiece
  apply zL_of; rw [e_X8_isPiece_0]
  by_cases h0 : x ≤ 0
  · rw [if_pos h0, zbi_f]
    · rfl
    · unfold zpc
      rw [decide_eq_false (Int32.not_lt.mpr h0)]
      simp
  · obtain ⟨s, hs, hs0, rfl⟩ := zpos_of h0
    have hpos : decide ((0 : Int32) < nI s) = true := decide_eq_true (Int32.not_le.mp h0)
    have hlt : zdif s (zon S) < 2 ^ 31 := Nat.lt_of_le_of_lt (zdif_le _ _) hs
    rw [if_neg h0, s_on (by omega) hW hM, Option.bind_some]
    dsimp only
    rw [zandn (by omega)]
    cases hh : zheld S s
    · have hne : zdif s (zon S) ≠ 0 := by
        intro q
        unfold zheld at hh
        rw [q] at hh
        cases hh
      rw [if_neg (nI_ne0 (by omega) hlt), zbi_f]
      · rfl
      · unfold zpc
        rw [hpos, zcN hs, hh]
        simp
    · have hne : zdif s (zon S) = 0 := by
        unfold zheld at hh
        exact beq_iff_eq.mp hh
      have hlt2 := zheld_lt hh
      rw [hne, if_pos (show nI 0 = (0 : Int32) from rfl), s_hangs (by omega) hW hM (by omega), Option.bind_some]
      dsimp only
      have e : (zpc S (nI s) = true) = (zhang S s = true) := by
        unfold zpc
        rw [hpos, zcN hs, hh]
        simp
      simp only [e]
      cases hz : zhang S s
      · rw [zbi_f (by decide), if_pos rfl]; rfl
      · rw [zbi_t rfl, if_neg zn10]; rfl
theorem s_isPieceC (hd : 2 ≤ d) (hb : zsh b) (hW : zwf S) (hS : zSheet S b M) (hF : zFin S M) (x : Int32) : (zenv zbt d).1 12 [.ref 53, .ref b, .int x] M = some (zbi (zpc S x = true), M) := by
  obtain ⟨d, rfl⟩ : ∃ e, d = e + 1 := ⟨d - 1, by omega⟩
  have hp := zpow10 hW.n
  apply c_X2_isPiece
  apply zL_of; rw [e_X2_isPiece_0 _ _ _ hb]
  by_cases h0 : x ≤ 0
  · rw [if_pos h0, zbi_f]
    · rfl
    · unfold zpc
      rw [decide_eq_false (Int32.not_lt.mpr h0)]
      simp
  · obtain ⟨s, hs, hs0, rfl⟩ := zpos_of h0
    have hpos : decide ((0 : Int32) < nI s) = true := decide_eq_true (Int32.not_le.mp h0)
    rw [if_neg h0]
    by_cases h1 : s < 1024
    · rw [if_neg (show ¬ ((1024 : Int32) ≤ nI s) from nI_ge h1 (by decide)), s_holds (by omega) hb hW hS hs, Option.bind_some]
      dsimp only
      cases hh : zheld S s
      · have hne : ¬ zdif s (zon S) = 0 := by
          intro q
          unfold zheld at hh
          rw [q] at hh
          cases hh
        rw [zbi_f hne, if_pos rfl, zbi_f]
        · rfl
        · unfold zpc
          rw [hpos, zcN hs, hh]
          simp
      · have hne : zdif s (zon S) = 0 := by
          unfold zheld at hh
          exact beq_iff_eq.mp hh
        have hlt2 := zheld_lt hh
        rw [zbi_t hne, if_neg zn10, zck_t (zinN h1 (by decide)), zcN hs, hF.1 s hs0 hlt2]
        have e : (zpc S (nI s) = true) = (zhang S s = true) := by
          unfold zpc
          rw [hpos, zcN hs, hh]
          simp
        simp only [e]
        cases hz : zhang S s
        · rw [zbi_f (by decide), if_pos rfl]; rfl
        · rw [zbi_t rfl, if_neg zn10]; rfl
    · rw [if_pos (show (1024 : Int32) ≤ nI s from nI_le (Nat.le_of_not_lt h1) hs), zbi_f]
      · rfl
      · unfold zpc
        rw [hpos, zcN hs]
        cases hh : zheld S s
        · simp
        · have := zheld_lt hh
          omega
end ZX12

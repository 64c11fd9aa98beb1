/-! What two rows tell: both read it alike -/
def zup2 (S : Nat → Nat) (c k v : Nat) : Nat → Nat := fun j => if j = 3 + c then k else if j = 31 + c then v else S j
theorem zall_f {f : Nat → Bool} {i : Nat} : ∀ {n : Nat}, i < n → f i = false → zall f n = false
  | 0, h, _ => by omega
  | n + 1, h, hf => by
    rw [zall]
    by_cases e : i = n
    · rw [← e, hf, Bool.and_false]
    · rw [zall_f (by omega) hf, Bool.false_and]
section ZX45
variable {d : Nat} {M : ZM} {S T : Nat → Nat} {b c k v : Nat}
theorem zup2_o (hc : c < 10) {j : Nat} (h : j < 3 ∨ (13 ≤ j ∧ j < 31)) : zup2 S c k v j = S j := by
  unfold zup2
  rw [if_neg (by omega), if_neg (by omega)]
theorem zup2_k (hc : c < 10) {i : Nat} (hi : i < 10) : zup2 S c k v (3 + i) = if i = c then k else S (3 + i) := by
  unfold zup2
  by_cases e : i = c
  · rw [if_pos (by omega), if_pos e]
  · rw [if_neg (by omega), if_neg (by omega), if_neg e]
theorem zup2_v (hc : c < 10) {i : Nat} : zup2 S c k v (31 + i) = if i = c then v else S (31 + i) := by
  unfold zup2
  by_cases e : i = c
  · rw [if_neg (by omega), if_pos (by omega), if_pos e]
  · rw [if_neg (by omega), if_neg (by omega), if_neg e]
theorem zup2_2 {k2 v2 : Nat} : zup2 (zup2 S c k v) c k2 v2 = zup2 S c k2 v2 := by
  funext j
  unfold zup2
  by_cases e : j = 3 + c
  · rw [if_pos e, if_pos e]
  · rw [if_neg e, if_neg e, if_neg e]
    by_cases e2 : j = 31 + c
    · rw [if_pos e2, if_pos e2]
    · rw [if_neg e2, if_neg e2, if_neg e2]
theorem zup2_i : zup2 S c (S (3 + c)) (S (31 + c)) = S := by
  funext j
  unfold zup2
  by_cases e : j = 3 + c
  · rw [if_pos e, e]
  · rw [if_neg e]
    by_cases e2 : j = 31 + c
    · rw [if_pos e2, e2]
    · rw [if_neg e2]
theorem zwf.up2 (hW : zwf S) (hc : c < 10) (h1 : 1 ≤ k) (h5 : k ≤ 5) (h9 : v ≤ 9) : zwf (zup2 S c k v) := by
  have e : ∀ j, (j < 3 ∨ (13 ≤ j ∧ j < 31)) → zup2 S c k v j = S j := fun j h => zup2_o hc h
  obtain ⟨w0, w2, w1, wv, w23, wc, w25, wp, wd, wq⟩ := hW
  refine ⟨by rw [e 0 (by omega)]; exact w0, by rw [e 2 (by omega)]; exact w2, by rw [e 0 (by omega), e 1 (by omega)]; exact w1, fun i hi => ?_, by rw [e 23 (by omega)]; exact w23, fun i hi => ?_, by rw [e 25 (by omega), e 0 (by omega)]; exact w25, fun i hi => ?_, fun i j hi hj hne => ?_, fun i hi => ?_⟩
  · rw [e 0 (by omega)] at hi
    obtain ⟨a1, a2, a3⟩ := wv i hi
    rw [zup2_k hc (by omega), zup2_v hc]
    by_cases q : i = c
    · rw [if_pos q, if_pos q]; exact ⟨h1, h5, h9⟩
    · rw [if_neg q, if_neg q]; exact ⟨a1, a2, a3⟩
  · rw [e 2 (by omega)] at hi
    rw [e (13 + i) (by omega), e (18 + i) (by omega)]
    exact wc i hi
  · rw [e (26 + i) (by omega), e 0 (by omega), e 2 (by omega)]
    exact wp i hi
  · rw [e (26 + i) (by omega), e (26 + j) (by omega)]
    exact wd i j hi hj hne
  · rw [e (26 + i) (by omega), e 25 (by omega)]
    exact wq i hi
theorem zon_up2 (hc : c < 10) : zon (zup2 S c k v) = zon S := by
  have e : ∀ j, (j < 3 ∨ (13 ≤ j ∧ j < 31)) → zup2 S c k v j = S j := fun j h => zup2_o hc h
  unfold zon zgone
  rw [e 0 (by omega), e 25 (by omega), e 26 (by omega), e 27 (by omega), e 28 (by omega), e 29 (by omega), e 30 (by omega)]
theorem zair_bit {i : Nat} : (zair S).testBit i = true ↔ i < S 0 ∧ 4 ≤ S (3 + i) := by
  unfold zair
  rw [zors_bit]
  constructor
  · rintro ⟨e, he, h⟩
    split at h
    · rename_i h2
      rw [z2b] at h
      subst h
      exact ⟨he, h2⟩
    · simp at h
  · rintro ⟨h1, h2⟩
    exact ⟨i, h1, by rw [if_pos h2, z2b]⟩
theorem zair_up2 (hW : zwf S) (hc : c < S 0) : zair (zup2 S c k v) = if k < 4 then zdif (zair S) (2 ^ c) else zair S ||| 2 ^ c := by
  have hn := hW.n
  apply zeqb
  intro i
  rw [zair_bit, zup2_o (by omega) (by omega)]
  by_cases hk : k < 4
  · rw [if_pos hk, zdif_bit, Bool.and_eq_true, zair_bit]
    by_cases hi : i < S 0
    · rw [zup2_k (by omega) (by omega)]
      by_cases e : i = c
      · subst e
        rw [if_pos rfl, z2b.mpr rfl]
        simp
        omega
      · rw [if_neg e]
        have : (2 ^ c).testBit i = false := by
          cases q : (2 ^ c).testBit i
          · rfl
          · exact absurd (z2b.mp q).symm e
        rw [this]
        simp
    · simp [hi]
  · rw [if_neg hk, Nat.testBit_or, Bool.or_eq_true, zair_bit, z2b]
    by_cases hi : i < S 0
    · rw [zup2_k (by omega) (by omega)]
      by_cases e : i = c
      · subst e
        rw [if_pos rfl]
        simp [hi]
        omega
      · rw [if_neg e]
        simp [hi, Ne.symm e]
    · constructor
      · intro q; exact absurd q.1 hi
      · rintro (q | q)
        · exact absurd q.1 hi
        · omega
theorem s_putS (hd : 1 ≤ d) (hb : zsh b) (hW : zwf S) (hS : zSheet S b M) (hc : c < S 0) (hk : k < 10) : ∃ M', (zenv zbt d).2.2 55 [.ref b, .int (nI c), .int (nI k), .int (nI v)] M = some M' ∧ zFr [b, b + 2, b + 3] M M' ∧ zSheet (zup2 S c k v) b M' := by
  obtain ⟨d, rfl⟩ : ∃ e, d = e + 1 := ⟨d - 1, by omega⟩
  have hn := hW.n
  have hc10 : c < 10 := by omega
  have ha := hW.air
  have e : ∀ j, (j < 3 ∨ (13 ≤ j ∧ j < 31)) → zup2 S c k v j = S j := fun j h => zup2_o hc10 h
  obtain ⟨s0, s1, s2, s3, s4, s5, s6, s7, s8, s9⟩ := hS
  refine ⟨zw (zw (zw M (b + 2) c (nI k)) (b + 3) c (nI v)) b 7 (nI (zair (zup2 S c k v))), ?_, ((zFr.rf.w (by simp)).w (by simp)).w (by simp), ?_⟩
  · apply c_X5_put
    apply zL_of; rw [e_X5_put_0 _ _ _ hb, zck_t (zinN hc10 (by decide)), zck_t (zinN hc10 (by decide)), zcN (by omega), s7, show zshl 1 (nI c) = nI (2 ^ c) from zshl1 (by omega), zandn (by omega), zor, zair_up2 hW hc]
    by_cases h4 : k < 4
    · rw [if_pos (show nI k < (4 : Int32) from nI_lt (b := 4) h4 (by decide)), if_pos h4]; rfl
    · rw [if_neg (show ¬ (nI k < (4 : Int32)) from nI_nlt (b := 4) (Nat.le_of_not_lt h4) (by omega)), if_neg h4]; rfl
  · have w7 : ∀ j, j ≠ 7 → (zw (zw (zw M (b + 2) c (nI k)) (b + 3) c (nI v)) b 7 (nI (zair (zup2 S c k v)))).1 b j = M.1 b j := fun j hj => by rw [zw_nk hj, zw_nc (by omega), zw_nc (by omega)]
    have wn : ∀ q, q ≠ b → q ≠ b + 2 → q ≠ b + 3 → (zw (zw (zw M (b + 2) c (nI k)) (b + 3) c (nI v)) b 7 (nI (zair (zup2 S c k v)))).1 q = M.1 q := fun q h1 h2 h3 => by rw [zw_nc h1, zw_nc h3, zw_nc h2]
    unfold zSheet
    rw [e 0 (by omega), e 1 (by omega), e 2 (by omega), e 23 (by omega), e 24 (by omega), e 25 (by omega), zon_up2 hc10]
    refine ⟨by rw [w7 0 (by decide)]; exact s0, by rw [w7 1 (by decide)]; exact s1, by rw [w7 2 (by decide)]; exact s2, by rw [w7 3 (by decide)]; exact s3, by rw [w7 4 (by decide)]; exact s4, by rw [w7 5 (by decide)]; exact s5, by rw [w7 6 (by decide)]; exact s6, zw_eq _ _ _ _, fun i hi => ⟨?_, ?_, ?_⟩, fun i hi => ⟨?_, ?_, ?_⟩⟩
    · rw [wn (b + 1) (by omega) (by omega) (by omega)]; exact (s8 i hi).1
    · rw [zw_nc (by omega), zw_nc (by omega), zup2_k hc10 (by omega)]
      by_cases q : i = c
      · rw [q, if_pos rfl, zw_eq]
      · rw [if_neg q, zw_nk q]; exact (s8 i hi).2.1
    · rw [zw_nc (by omega), zup2_v hc10]
      by_cases q : i = c
      · rw [q, if_pos rfl, zw_eq]
      · rw [if_neg q, zw_nk q, zw_nc (by omega)]; exact (s8 i hi).2.2
    · have := hW.m
      rw [wn (b + 4) (by omega) (by omega) (by omega), e (13 + i) (by omega)]; exact (s9 i hi).1
    · have := hW.m
      rw [wn (b + 5) (by omega) (by omega) (by omega), e (18 + i) (by omega)]; exact (s9 i hi).2.1
    · have := hW.m
      rw [wn (b + 6) (by omega) (by omega) (by omega), e (26 + i) (by omega)]; exact (s9 i hi).2.2
/-- the k-th that is told is so -/
def zso (T : Nat → Nat) (cs : Nat → Nat) (vs : Nat → Int32) (k : Nat) : Bool := decide (nI (zpay T (zors (fun e => 2 ^ cs e) (k + 1))) = vs k)
def zTld (M : ZM) (n : Nat) (cs : Nat → Nat) (vs : Nat → Int32) : Prop := M.1 63 2 = nI n ∧ ∀ k, k < n → M.1 64 k = nI (cs k) ∧ M.1 65 k = vs k
theorem zTld.fr {cl : List Nat} {M' : ZM} {n : Nat} {cs : Nat → Nat} {vs : Nat → Int32} (h : zTld M n cs vs) (hf : zFr cl M M') (h1 : 63 ∉ cl) (h2 : 64 ∉ cl) (h3 : 65 ∉ cl) : zTld M' n cs vs := by
  unfold zTld at h ⊢
  rw [(hf 63 h1).1, (hf 64 h2).1, (hf 65 h3).1]
  exact h
theorem s_isSoC (hd : 4 ≤ d) (hb : zsh b) (hW : zwf T) (hS : zSheet T b M) {n : Nat} {cs : Nat → Nat} {vs : Nat → Int32} (hn : n ≤ 10) (hT : zTld M n cs vs) (hc : ∀ k, k < n → cs k < 10) : (zenv zbt d).1 79 [.ref 63, .ref b] M = some (zbi (zall (zso T cs vs) n = true), M) := by
  obtain ⟨d, rfl⟩ : ∃ e, d = e + 1 := ⟨d - 1, by omega⟩
  have key : ∀ i, i ≤ n → zall (zso T cs vs) i = true → zL (zenv zbt d) tb_X6_isSo cu_X6_isSo 4 [some (.ref 63), some (.ref b), some (.int (nI (zors (fun e => 2 ^ cs e) i))), some (.int (nI i))] [] M (some (.int (zbi (zall (zso T cs vs) n = true))), M) := by
    apply zup
    · intro h
      apply zL_of; rw [e_X6_isSo_4 _ _ _ hb, hT.1, if_pos (nI_le (Nat.le_refl _) (by omega)), zbi_t h]; rfl
    · intro i hi ih h
      have hlt : zors (fun e => 2 ^ cs e) (i + 1) < 1024 := zors_lt (k := 10) (fun e he => zpow_lt (hc e (by omega)))
      have hci := hc i hi
      have es : nI (zors (fun e => 2 ^ cs e) i) ||| zshl 1 (nI (cs i)) = nI (zors (fun e => 2 ^ cs e) (i + 1)) := by
        rw [show zshl 1 (nI (cs i)) = nI (2 ^ cs i) from zshl1 (by omega), zor]; rfl
      apply zL_of; rw [e_X6_isSo_4 _ _ _ hb, hT.1, if_neg (nI_ge hi (by omega)), zck_t (zinN (by omega) (by decide)), zcN (by omega), (hT.2 i hi).1, es, s_paysOf (by omega) hb hW hS hlt, Option.bind_some]
      dsimp only
      rw [zck_t (zinN (by omega) (by decide)), (hT.2 i hi).2]
      by_cases q : nI (zpay T (zors (fun e => 2 ^ cs e) (i + 1))) = vs i
      · rw [if_pos q, nI_1]
        exact zPo_go (ih (by rw [zall, h, Bool.true_and]; exact decide_eq_true q))
      · rw [if_neg q, zbi_f (by rw [zall_f hi (by exact decide_eq_false q)]; decide)]; rfl
  apply c_X6_isSo
  apply zL_of; rw [e_X6_isSo_0 _ _ _ hb]
  exact zPo_go (key 0 (by omega) rfl)
theorem z40 (r i k : Nat) : ((40 * nI r) + nI i) + nI k = nI (40 * r + i + k) := by rw [show (40 : Int32) = nI 40 from rfl, pk_mul, nI_add, nI_add]
theorem s_isSoM (hd : 3 ≤ d) (hW : zwf T) (hM : zMod T M) {r i o j n : Nat} {cs : Nat → Nat} {vs : Nat → Int32} (hr : r < 8) (ho : o < 8) (hi : i + n ≤ 40) (hj : j + n ≤ 40) (hn : n ≤ 10) (h1 : ∀ k, k < n → M.1 69 (40 * r + i + k) = nI (cs k)) (h2 : ∀ k, k < n → M.1 69 (40 * o + j + k) = vs k) (hc : ∀ k, k < n → cs k < 10) : (zenv zbt d).1 213 [.ref 66, .int (nI r), .int (nI i), .int (nI o), .int (nI j), .int (nI n)] M = some (zbi (zall (zso T cs vs) n = true), M) := by
  obtain ⟨d, rfl⟩ : ∃ e, d = e + 1 := ⟨d - 1, by omega⟩
  have key : ∀ k, k ≤ n → zL (zenv zbt d) tb_X8_isSo cu_X8_isSo 9 [some (.ref 66), some (.int (nI r)), some (.int (nI i)), some (.int (nI o)), some (.int (nI j)), some (.int (nI n)), some (.int (nI (zors (fun e => 2 ^ cs e) k))), some (.int (zbi (zall (zso T cs vs) k = true))), some (.int (nI k))] [] M (some (.int (zbi (zall (zso T cs vs) n = true))), M) := by
    apply zup
    · apply zL_of; rw [e_X8_isSo_9, if_pos (nI_le (Nat.le_refl _) (by omega)), zck_t zbi_01]; rfl
    · intro k hk ih
      have hlt : zors (fun e => 2 ^ cs e) (k + 1) < 1024 := zors_lt (k := 10) (fun e he => zpow_lt (hc e (by omega)))
      have hck := hc k hk
      have es : nI (zors (fun e => 2 ^ cs e) k) ||| zshl 1 (nI (cs k)) = nI (zors (fun e => 2 ^ cs e) (k + 1)) := by
        rw [show zshl 1 (nI (cs k)) = nI (2 ^ cs k) from zshl1 (by omega), zor]; rfl
      apply zL_of; rw [e_X8_isSo_9, if_neg (nI_ge hk (by omega)), z40, z40, zck_t (zinN (by omega) (by decide)), zcN (by omega), zcN (by omega), h1 k hk, es, nI_1]
      rw [zall] at ih
      cases q : zall (zso T cs vs) k
      · rw [zbi_f (by decide), if_pos rfl]
        rw [q, Bool.false_and, zbi_f (by decide)] at ih
        exact zPo_go ih
      · rw [zbi_t rfl, if_neg zn10, s_pays (by omega) hW hM hlt, Option.bind_some]
        dsimp only
        rw [zck_t (zinN (by omega) (by decide)), h2 k hk]
        rw [q, Bool.true_and] at ih
        by_cases q2 : nI (zpay T (zors (fun e => 2 ^ cs e) (k + 1))) = vs k
        · rw [if_pos q2]
          rw [show zso T cs vs k = true from decide_eq_true q2, zbi_t rfl] at ih
          exact zPo_go ih
        · rw [if_neg q2]
          rw [show zso T cs vs k = false from decide_eq_false q2, zbi_f (by decide)] at ih
          exact zPo_go ih
  apply c_X8_isSo
  apply zL_of; rw [e_X8_isSo_0]
  exact zPo_go (key 0 (by omega))
/-- what was met: none, if a number is no cell, or was told ahead -/
def zmx (it : Nat → Int32) (N : Nat) : Nat → Option Nat
  | 0 => some 0
  | k + 1 => match zmx it N k with
    | none => none
    | some m => if (zin (it k) N && !(m.testBit (it k).toNatClampNeg)) = true then some (m ||| 2 ^ (it k).toNatClampNeg) else none
theorem zmx_no {it : Nat → Int32} {N k : Nat} (h : zmx it N k = none) : ∀ j, zmx it N (k + j) = none
  | 0 => h
  | j + 1 => by
    rw [← Nat.add_assoc, zmx, zmx_no h j]
theorem zmx_no' {it : Nat → Int32} {N k n : Nat} (h : zmx it N k = none) (hk : k ≤ n) : zmx it N n = none := by
  have := zmx_no h (n - k)
  rw [show k + (n - k) = n by omega] at this
  exact this
theorem zmx_ok {it : Nat → Int32} {N : Nat} (hN : N ≤ 10) : ∀ {n m : Nat}, zmx it N n = some m → m < 1024 ∧ ∀ k, k < n → zin (it k) N = true
  | 0, m, h => by
    cases h
    exact ⟨by decide, fun k hk => by omega⟩
  | n + 1, m, h => by
    rw [zmx] at h
    cases q : zmx it N n with
    | none => rw [q] at h; cases h
    | some m' =>
      rw [q] at h
      obtain ⟨i1, i2⟩ := zmx_ok hN q
      by_cases hz : (zin (it n) N && !(m'.testBit (it n).toNatClampNeg)) = true
      · simp only [hz, if_true, Option.some.injEq] at h
        rw [Bool.and_eq_true] at hz
        obtain ⟨c, hc, e⟩ := (zin_iff (by omega)).mp hz.1
        rw [e, zcN (by omega)] at h
        refine ⟨?_, fun k hk => ?_⟩
        · rw [← h]
          exact Nat.or_lt_two_pow (n := 10) i1 (zpow_lt (by omega))
        · by_cases e2 : k = n
          · rw [e2]; exact hz.1
          · exact i2 k (by omega)
      · simp only [hz, if_false] at h
        cases h
theorem s_takeCells (hd : 1 ≤ d) {r i n N : Nat} (hr : r < 8) (hin : i + n ≤ 40) (hn : n ≤ 10) (hN : N ≤ 10) {it : Nat → Int32} (hit : ∀ k, k < n → M.1 (10 + r) (i + k) = it k) : ∃ M', (zenv zbt d).1 77 [.ref 63, .ref (2 + r), .int (nI i), .int (nI n), .int (nI N)] M = some (zbi ((zmx it N n).isSome = true), M') ∧ zFr [63, 64] M M' ∧ ((zmx it N n).isSome = true → M'.1 63 2 = nI n ∧ ∀ k, k < n → M'.1 64 k = it k) := by
  obtain ⟨d, rfl⟩ : ∃ e, d = e + 1 := ⟨d - 1, by omega⟩
  have hrw := zrw_r hr
  have key : ∀ k, k ≤ n → ∀ m Mk, zmx it N k = some m → zFr [63, 64] M Mk → Mk.1 63 2 = nI k → (∀ e, e < k → Mk.1 64 e = it e) → ∃ M', zL (zenv zbt d) tb_X6_takeCells cu_X6_takeCells 11 [some (.ref 63), some (.ref (2 + r)), some (.int (nI i)), some (.int (nI n)), some (.int (nI N)), some (.int (nI m)), some (.int (nI k)), none] [] Mk (some (.int (zbi ((zmx it N n).isSome = true))), M') ∧ zFr [63, 64] M M' ∧ ((zmx it N n).isSome = true → M'.1 63 2 = nI n ∧ ∀ k, k < n → M'.1 64 k = it k) := by
    apply zup
    · intro m Mk hm hf h2 h4
      refine ⟨Mk, ?_, hf, fun _ => ⟨h2, h4⟩⟩
      apply zL_of; rw [e_X6_takeCells_11 _ _ _ hrw, if_pos (nI_le (Nat.le_refl _) (by omega)), hm, zbi_t (show (some m).isSome = true from rfl)]; rfl
    · intro k hk ih m Mk hm hf h2 h4
      obtain ⟨hm10, -⟩ := zmx_ok hN hm
      have hx : Mk.1 (2 + r + 8) (i + k) = it k := by
        rw [show 2 + r + 8 = 10 + r by omega, (hf (10 + r) (by simp; omega)).1]
        exact hit k hk
      have bad : zmx it N (k + 1) = none → zmx it N n = none := fun q => zmx_no' q (by omega)
      cases hz : zin (it k) N
      · have hno : zmx it N n = none := bad (by rw [zmx, hm]; simp [hz])
        refine ⟨Mk, ?_, hf, fun q => by rw [hno] at q; cases q⟩
        apply zL_of; rw [e_X6_takeCells_11 _ _ _ hrw, if_neg (nI_ge hk (by omega)), if_neg (show ¬ ((10 : Int32) ≤ nI k) from nI_ge (show k < 10 by omega) (by decide)), nI_add, zck_t (zinN (by omega) (by decide)), zcN (by omega), hx, hno, zbi_f (by decide)]
        by_cases q : it k < 0
        · rw [if_pos q]; rfl
        · rw [if_neg q, if_pos ((zin_f (by omega) hz).resolve_left q)]; rfl
      · obtain ⟨c, hc, e⟩ := (zin_iff (by omega)).mp hz
        have ec : (it k).toNatClampNeg = c := by rw [e, zcN (by omega)]
        cases hb : m.testBit c
        · have hyes : zmx it N (k + 1) = some (m ||| 2 ^ c) := by
            rw [zmx, hm]
            simp [hz, ec, hb]
          obtain ⟨M', g1, g2, g3⟩ := ih (m ||| 2 ^ c) (zw (zw Mk 64 k (it k)) 63 2 (nI (k + 1))) hyes ((hf.w (by decide)).w (by decide)) (zw_eq _ _ _ _) (fun e2 he => by
            rw [zw_nc (by decide)]
            by_cases q : e2 = k
            · rw [q, zw_eq]
            · rw [zw_nk q]; exact h4 e2 (by omega))
          refine ⟨M', ?_, g2, g3⟩
          apply zL_of; rw [e_X6_takeCells_11 _ _ _ hrw, if_neg (nI_ge hk (by omega)), if_neg (show ¬ ((10 : Int32) ≤ nI k) from nI_ge (show k < 10 by omega) (by decide)), nI_add, zck_t (zinN (by omega) (by decide)), zcN (by omega), hx, e, if_neg (nI_pos (by omega)), if_neg (nI_ge hc (by omega)), if_pos ((zbit0 (by omega) (by omega)).mpr hb), zck_t (zinN (by omega) (by decide)), show zshl 1 (nI c) = nI (2 ^ c) from zshl1 (by omega), zor, nI_1, zcN (by omega)]
          rw [e] at g1
          exact zPo_go g1
        · have hno : zmx it N n = none := bad (by rw [zmx, hm]; simp [ec, hb])
          refine ⟨Mk, ?_, hf, fun q => by rw [hno] at q; cases q⟩
          apply zL_of; rw [e_X6_takeCells_11 _ _ _ hrw, if_neg (nI_ge hk (by omega)), if_neg (show ¬ ((10 : Int32) ≤ nI k) from nI_ge (show k < 10 by omega) (by decide)), nI_add, zck_t (zinN (by omega) (by decide)), zcN (by omega), hx, hno, zbi_f (by decide), e, if_neg (nI_pos (by omega)), if_neg (nI_ge hc (by omega)), if_neg (fun q => by rw [zbit0 (by omega) (by omega), hb] at q; cases q)]; rfl
  obtain ⟨M', g1, g2, g3⟩ := key 0 (by omega) 0 (zw M 63 2 0) rfl (zFr.rf.w (by decide)) (zw_eq _ _ _ _) (fun e he => by omega)
  refine ⟨M', ?_, g2, g3⟩
  apply c_X6_takeCells
  apply zL_of; rw [e_X6_takeCells_0 _ _ _ hrw]
  exact zPo_go g1
theorem s_takePays (hd : 1 ≤ d) {o j n : Nat} (ho : o < 8) (hjn : j + n ≤ 40) (hn : n ≤ 10) (h2 : M.1 63 2 = nI n) : ∃ M', (zenv zbt d).2.2 78 [.ref 63, .ref (2 + o), .int (nI j)] M = some M' ∧ zFr [65] M M' ∧ ∀ k, k < n → M'.1 65 k = M.1 (10 + o) (j + k) := by
  obtain ⟨d, rfl⟩ : ∃ e, d = e + 1 := ⟨d - 1, by omega⟩
  have hrw := zrw_r ho
  have key : ∀ k, k ≤ n → ∀ Mk, zFr [65] M Mk → (∀ e, e < k → Mk.1 65 e = M.1 (10 + o) (j + e)) → ∃ M', zL (zenv zbt d) tb_X6_takePays cu_X6_takePays 2 [some (.ref 63), some (.ref (2 + o)), some (.int (nI j)), some (.int (nI k))] [] Mk (none, M') ∧ zFr [65] M M' ∧ ∀ k, k < n → M'.1 65 k = M.1 (10 + o) (j + k) := by
    apply zup
    · intro Mk hf h4
      refine ⟨Mk, ?_, hf, h4⟩
      apply zL_of; rw [e_X6_takePays_2 _ _ _ hrw, (hf 63 (by decide)).1, h2, if_pos (nI_le (Nat.le_refl _) (by omega))]; rfl
    · intro k hk ih Mk hf h4
      obtain ⟨M', g1, g2, g3⟩ := ih (zw Mk 65 k (M.1 (10 + o) (j + k))) (hf.w (by decide)) (fun e he => by
        by_cases q : e = k
        · rw [q, zw_eq]
        · rw [zw_nk q]; exact h4 e (by omega))
      refine ⟨M', ?_, g2, g3⟩
      apply zL_of; rw [e_X6_takePays_2 _ _ _ hrw, (hf 63 (by decide)).1, h2, if_neg (nI_ge hk (by omega)), nI_add, zck_t (zinN (by omega) (by decide)), zck_t (zinN (by omega) (by decide)), zcN (by omega), zcN (by omega), show 2 + o + 8 = 10 + o by omega, (hf (10 + o) (by simp; omega)).1, nI_1]
      exact zPo_go g1
  obtain ⟨M', g1, g2, g3⟩ := key 0 (by omega) M zFr.rf (fun e he => by omega)
  refine ⟨M', ?_, g2, g3⟩
  apply c_X6_takePays
  apply zL_of; rw [e_X6_takePays_0 _ _ _ hrw]
  exact zPo_go g1
end ZX45

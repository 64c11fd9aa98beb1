/-! Sums that pieces pay -/
theorem zland (a b : Nat) : lN a &&& lN b = lN (a &&& b) := zlinj (by
  rw [Int64.toBitVec_and, ztb, ztb, ztb]
  apply BitVec.eq_of_getLsbD_eq
  intro i hi
  simp [BitVec.getLsbD_and, BitVec.getLsbD_ofNat, hi])
theorem zlor (a b : Nat) : lN a ||| lN b = lN (a ||| b) := zlinj (by
  rw [Int64.toBitVec_or, ztb, ztb, ztb]
  apply BitVec.eq_of_getLsbD_eq
  intro i hi
  simp [BitVec.getLsbD_or, BitVec.getLsbD_ofNat, hi])
theorem zlor0 (a : Nat) : lN a ||| 0 = lN a := by rw [show (0 : Int64) = lN 0 from rfl, zlor, Nat.or_zero]
theorem zlbit {n v : Nat} (hn : n < 2 ^ 63) (hv : v < 64) : (lg_cmp (zlshr (lN n) (nI v) &&& 1) 1 = 0) ↔ n.testBit v = true := by
  rw [lg_cmp_eq, zlshrN hn hv, show (1 : Int64) = lN 1 from rfl, zland, Nat.and_one_is_mod, pk_lEQ (Nat.lt_trans (Nat.mod_lt _ (by decide)) (by decide)) (by decide), Nat.testBit_eq_decide_div_mod_eq, decide_eq_true_eq]
theorem zl1 {v : Nat} (hv : v < 64) : zlshl 1 (nI v) = lN (2 ^ v) := by rw [show (1 : Int64) = lN 1 from rfl, zlshlN 1 hv, Nat.one_mul]
theorem zBn (p : Bool) : zB p = nI p.toNat := by cases p <;> rfl
def zpd (S : Nat → Nat) (v : Nat) : Bool := (zHL S).any (fun s => zheld S s && zpay S s == v)
def zpdR (S : Nat → Nat) (k v : Nat) : Bool := (List.range k).any (fun s => zhang S s && (zheld S s && zpay S s == v))
theorem zpdR_s (S : Nat → Nat) (k v : Nat) : zpdR S (k + 1) v = (zpdR S k v || (zhang S k && (zheld S k && zpay S k == v))) := by
  unfold zpdR
  rw [List.range_succ, List.any_append]
  simp
theorem zpdR_e (S : Nat → Nat) (v : Nat) : zpdR S (2 ^ S 0) v = zpd S v := by
  unfold zpdR zpd zHL
  rw [List.any_filter]
theorem ztany {L : List Nat} {p : Nat → Bool} {i x : Nat} (h : L[i]? = some x) : (L.take (i + 1)).any p = ((L.take i).any p || p x) := by
  rw [List.take_succ, h, List.any_append]
  simp
def zgG (S : Nat → Nat) (a s : Nat) : Nat := if zheld S s then max a (zpay S s) else a
def zlu (p : Nat → Bool) : Nat → Nat → Int32 → Int32
  | 0, _, x => x
  | n + 1, k, x => if p k then zlu p n (k + 1) x else nI k
def zld (p : Nat → Bool) : Nat → Int32 → Int32
  | 0, x => x
  | m + 1, x => zld p m (if p m then x else nI m)
theorem zlu_s (p : Nat → Bool) : ∀ (n k : Nat) (x : Int32), zlu p (n + 1) k x = zlu p n k (if p (k + n) then x else nI (k + n))
  | 0, k, x => rfl
  | n + 1, k, x => by
    rw [zlu, zlu_s p n (k + 1) x]
    conv => rhs; rw [zlu]
    rw [show k + 1 + n = k + (n + 1) by omega]
theorem zld_lu (p : Nat → Bool) : ∀ (m : Nat) (x : Int32), zld p m x = zlu p m 0 x
  | 0, x => rfl
  | m + 1, x => by rw [zld, zld_lu p m, zlu_s, Nat.zero_add]
section ZX41
variable {d : Nat} {M : ZM} {S : Nat → Nat} {b : Nat}
theorem s_markSums (hd : 2 ≤ d) (hb : zsh b) (hW : zwf S) (hS : zSheet S b M) (hF : zFin S M) (hP : ∀ i x, (zHL S)[i]? = some x → M.1 56 i = nI (zpay S x)) : ∃ M', (zenv zbt d).2.2 17 [.ref 53, .ref b] M = some M' ∧ zFr [59] M M' ∧ ∀ v, v < 100 → M'.1 59 v = zB (zpd S v) := by
  obtain ⟨d, rfl⟩ : ∃ e, d = e + 1 := ⟨d - 1, by omega⟩
  have hlen := zHL_len hW
  have hp10 := zpow10 hW.n
  have hbc : ∀ j, j < 7 → b + j ∉ [59] := by
    intro j hj
    rcases hb with rfl | rfl <;> simp <;> omega
  have key : ∀ k, k ≤ (zHL S).length → ∀ Mk, zFr [59] M Mk → (∀ v, v < 100 → Mk.1 59 v = zB (((zHL S).take k).any (fun s => zheld S s && zpay S s == v))) → ∃ M', zL (zenv zbt d) tb_X2_markSums cu_X2_markSums 10 [some (.ref 53), some (.ref b), some (.int (nI k))] [] Mk (none, M') ∧ zFr [59] M M' ∧ ∀ v, v < 100 → M'.1 59 v = zB (zpd S v) := by
    apply zup
    · intro Mk hf hv
      rw [List.take_length] at hv
      refine ⟨Mk, ?_, hf, hv⟩
      apply zL_of; rw [e_X2_markSums_10 _ _ _ hb, (hf 53 (by decide)).1, hF.2.1, if_pos (nI_le (Nat.le_refl _) (by omega))]; rfl
    · intro k hk ih Mk hf hv
      obtain ⟨x, hx⟩ : ∃ x, (zHL S)[k]? = some x := ⟨_, List.getElem?_eq_getElem hk⟩
      have hxm := zHL_mem hx
      have hSk := hS.fr hf hbc
      have hpay := hW.pay x
      have same : (∀ v, v < 100 → (zheld S x && zpay S x == v) = false) → ∃ M', zL (zenv zbt d) tb_X2_markSums cu_X2_markSums 10 [some (.ref 53), some (.ref b), some (.int (nI (k + 1)))] [] Mk (none, M') ∧ zFr [59] M M' ∧ ∀ v, v < 100 → M'.1 59 v = zB (zpd S v) := fun hz => ih Mk hf (fun v hv1 => by rw [ztany hx, hz v hv1, Bool.or_false]; exact hv v hv1)
      by_cases hh : zdif x (zon S) = 0
      · have e : zheld S x = true := by unfold zheld; rw [hh]; rfl
        by_cases hlt : zpay S x < 100
        · obtain ⟨M', h1, h2, h3⟩ := ih (zw Mk 59 (zpay S x) 1) (hf.w (by decide)) (fun v hv1 => by
            rw [ztany hx, zw_at, e, Bool.true_and]
            by_cases ev : v = zpay S x
            · subst ev
              rw [if_pos ⟨rfl, rfl⟩, beq_self_eq_true, Bool.or_true]; rfl
            · rw [if_neg (fun q => ev q.2), beq_eq_false_iff_ne.mpr (fun q => ev q.symm), Bool.or_false]
              exact hv v hv1)
          refine ⟨M', ?_, h2, h3⟩
          apply zL_of; rw [e_X2_markSums_10 _ _ _ hb, (hf 53 (by decide)).1, hF.2.1, if_neg (nI_ge hk (by omega)), zck_t (zinN (by omega) (by decide)), zcN (by omega), (hf 55 (by decide)).1, hF.2.2 k x hx, s_holds (by omega) hb hW hSk (by omega), Option.bind_some]
          dsimp only
          rw [zbi_t hh, if_neg zn10, (hf 56 (by decide)).1, hP k x hx, zck_t (zinN (by omega) (by decide)), if_neg (nI_pos (by omega)), zck_t (zinN (by omega) (by decide)), if_neg (show ¬ ((100 : Int32) ≤ nI (zpay S x)) from nI_ge hlt (by decide)), zck_t (zinN (by omega) (by decide)), zck_t (zinN (by omega) (by decide)), zcN (by omega)]
          apply zPo_go
          simpa only [zlit, nI_add] using h1
        · obtain ⟨M', h1, h2, h3⟩ := same (fun v hv1 => by rw [e, Bool.true_and]; exact beq_eq_false_iff_ne.mpr (by omega))
          refine ⟨M', ?_, h2, h3⟩
          apply zL_of; rw [e_X2_markSums_10 _ _ _ hb, (hf 53 (by decide)).1, hF.2.1, if_neg (nI_ge hk (by omega)), zck_t (zinN (by omega) (by decide)), zcN (by omega), (hf 55 (by decide)).1, hF.2.2 k x hx, s_holds (by omega) hb hW hSk (by omega), Option.bind_some]
          dsimp only
          rw [zbi_t hh, if_neg zn10, (hf 56 (by decide)).1, hP k x hx, zck_t (zinN (by omega) (by decide)), if_neg (nI_pos (by omega)), zck_t (zinN (by omega) (by decide)), if_pos (show (100 : Int32) ≤ nI (zpay S x) from nI_le (a := 100) (Nat.le_of_not_lt hlt) (by omega))]
          apply zPo_go
          simpa only [zlit, nI_add] using h1
      · have e : zheld S x = false := by
          unfold zheld
          exact beq_eq_false_iff_ne.mpr hh
        obtain ⟨M', h1, h2, h3⟩ := same (fun v hv1 => by rw [e, Bool.false_and])
        refine ⟨M', ?_, h2, h3⟩
        apply zL_of; rw [e_X2_markSums_10 _ _ _ hb, (hf 53 (by decide)).1, hF.2.1, if_neg (nI_ge hk (by omega)), zck_t (zinN (by omega) (by decide)), zcN (by omega), (hf 55 (by decide)).1, hF.2.2 k x hx, s_holds (by omega) hb hW hSk (by omega), Option.bind_some]
        dsimp only
        rw [zbi_f hh, if_pos rfl]
        apply zPo_go
        simpa only [zlit, nI_add] using h1
  obtain ⟨M', h1, h2, h3⟩ := key 0 (by omega) (zfl M 59 0 (zln 59) 0) (zFr.rf.fl (by decide)) (fun v hv => by
    rw [zfl_at, if_pos ⟨rfl, by omega, by show v < 0 + 100; omega⟩]; rfl)
  refine ⟨M', ?_, h2, h3⟩
  apply c_X2_markSums
  apply zL_of; rw [e_X2_markSums_0 _ _ _ hb, s_fill (by omega) (by rfl) (by decide), Option.bind_some]
  exact zPo_go h1
theorem s_countSums (hd : 1 ≤ d) {p : Nat → Bool} (h : ∀ v, v < 100 → M.1 59 v = zB (p v)) : (zenv zbt d).1 18 [.ref 53] M = some (nI (zsum (fun v => (p v).toNat) 100), M) := by
  obtain ⟨d, rfl⟩ : ∃ e, d = e + 1 := ⟨d - 1, by omega⟩
  have key : ∀ i, i ≤ 100 → zL (zenv zbt d) tb_X2_countSums cu_X2_countSums 4 [some (.ref 53), some (.int (nI (zsum (fun v => (p v).toNat) i))), some (.int (nI i))] [] M (some (.int (nI (zsum (fun v => (p v).toNat) 100))), M) := by
    apply zup
    · apply zL_of; rw [e_X2_countSums_4, if_pos (show (100 : Int32) ≤ nI 100 from nI_le (by decide) (by decide))]; rfl
    · intro i hi ih
      rw [zsum] at ih
      apply zL_of; rw [e_X2_countSums_4, if_neg (show ¬ ((100 : Int32) ≤ nI i) from nI_ge hi (by decide)), zck_t (zinN hi (by decide)), zcN (by omega), h i hi, zBn]
      apply zPo_go
      simpa only [zlit, nI_add] using ih
  apply c_X2_countSums
  apply zL_of; rw [e_X2_countSums_0]; apply zPo_go
  exact key 0 (by omega)
theorem s_leastSum (hd : 1 ≤ d) {p : Nat → Bool} (h : ∀ v, v < 100 → M.1 59 v = zB (p v)) : (zenv zbt d).1 19 [.ref 53] M = some (zlu p 100 0 (-1000000), M) := by
  obtain ⟨d, rfl⟩ : ∃ e, d = e + 1 := ⟨d - 1, by omega⟩
  have key : ∀ i, i ≤ 100 → zL (zenv zbt d) tb_X2_leastSumUnpaid cu_X2_leastSumUnpaid 2 [some (.ref 53), some (.int (nI i))] [] M (some (.int (zlu p (100 - i) i (-1000000))), M) := by
    apply zup
    · apply zL_of; rw [e_X2_leastSumUnpaid_2, if_pos (show (100 : Int32) ≤ nI 100 from nI_le (by decide) (by decide))]; rfl
    · intro i hi ih
      apply zL_of; rw [e_X2_leastSumUnpaid_2, if_neg (show ¬ ((100 : Int32) ≤ nI i) from nI_ge hi (by decide)), zck_t (zinN hi (by decide)), zcN (by omega), h i hi]
      have e : zlu p (100 - i) i (-1000000) = if p i then zlu p (100 - (i + 1)) (i + 1) (-1000000) else nI i := by
        rw [show 100 - i = (100 - (i + 1)) + 1 by omega, zlu]
      cases hp : p i
      · rw [hp] at e
        rw [e, if_pos (show zB false = 0 from rfl)]; rfl
      · rw [hp, if_pos rfl] at e
        rw [e, if_neg (show ¬ (zB true = 0) from zn10)]
        apply zPo_go
        simpa only [zlit, nI_add] using ih
  apply c_X2_leastSumUnpaid
  apply zL_of; rw [e_X2_leastSumUnpaid_0]; apply zPo_go
  exact key 0 (by omega)
theorem zgG_le (hW : zwf S) (L : List Nat) : L.foldl (zgG S) 0 ≤ 950 := by
  refine zfold_ok (Q := fun a => a ≤ 950) L 0 (by omega) (fun s _ a ha => ?_)
  have := hW.pay s
  unfold zgG
  split <;> omega
theorem s_greatest (hd : 2 ≤ d) (hb : zsh b) (hW : zwf S) (hS : zSheet S b M) (hF : zFin S M) (hP : ∀ i x, (zHL S)[i]? = some x → M.1 56 i = nI (zpay S x)) : (zenv zbt d).1 20 [.ref 53, .ref b] M = some (nI ((zHL S).foldl (zgG S) 0), M) := by
  obtain ⟨d, rfl⟩ : ∃ e, d = e + 1 := ⟨d - 1, by omega⟩
  have hlen := zHL_len hW
  have hp10 := zpow10 hW.n
  have key : ∀ k, k ≤ (zHL S).length → zL (zenv zbt d) tb2_X2_greatestSum cu_X2_greatestSum 4 [some (.ref 53), some (.ref b), some (.int (nI (((zHL S).take k).foldl (zgG S) 0))), some (.int (nI k))] [] M (some (.int (nI ((zHL S).foldl (zgG S) 0))), M) := by
    apply zup
    · apply zL_of; rw [e2_X2_greatestSum_4 _ _ _ hb, hF.2.1, if_pos (nI_le (Nat.le_refl _) (by omega)), ztake_all]; rfl
    · intro k hk ih
      obtain ⟨x, hx⟩ : ∃ x, (zHL S)[k]? = some x := ⟨_, List.getElem?_eq_getElem hk⟩
      have hxm := zHL_mem hx
      have hpay := hW.pay x
      have hacc := zgG_le hW ((zHL S).take k)
      rw [ztake_succ hx] at ih
      generalize ((zHL S).take k).foldl (zgG S) 0 = acc at ih hacc ⊢
      apply zL_of; rw [e2_X2_greatestSum_4 _ _ _ hb, hF.2.1, if_neg (nI_ge hk (by omega)), zck_t (zinN (by omega) (by decide)), zcN (by omega), hF.2.2 k x hx, s_holds (by omega) hb hW hS (by omega), Option.bind_some]
      dsimp only
      by_cases hh : zdif x (zon S) = 0
      · have e : zheld S x = true := by unfold zheld; rw [hh]; rfl
        rw [zbi_t hh, if_neg zn10, zck_t (zinN (by omega) (by decide)), hP k x hx, zmaxN (by omega) (by omega)]
        apply zPo_go
        simpa only [zlit, nI_add, zgG, e, if_true] using ih
      · have e : zheld S x = false := by
          unfold zheld
          exact beq_eq_false_iff_ne.mpr hh
        rw [zbi_f hh, if_pos rfl]
        apply zPo_go
        simpa only [zlit, nI_add, zgG, e, Bool.false_eq_true, if_false] using ih
  apply c_X2_greatestSum
  apply zL_of; rw [e2_X2_greatestSum_0 _ _ _ hb]; apply zPo_go
  exact key 0 (by omega)
theorem l_sumsB {L H : Nat} (hL : L < 2 ^ 50) (hH : H < 2 ^ 50) {p : Nat → Bool} (h1 : ∀ v, v < 50 → L.testBit v = p v) (h2 : ∀ v, v < 50 → H.testBit v = p (50 + v)) (x1 g : Int32) : ∀ m, m ≤ 100 → ∀ (c : Nat) (x8 : Int32), zL (zenv zbt d) tb_X8_sums cu_X8_sums 139 [none, some (.int x1), some (.int g), some (.long (lN L)), none, some (.long (lN H)), none, some (.int (nI c)), some (.int x8), some (.int (nI m - 1)), none] [] M (some (.int (if x1 = 0 then nI (c + zsum (fun v => (p v).toNat) m) else if x1 = 1 then zld p m x8 else g)), M) := by
  intro m
  induction m with
  | zero =>
    intro _ c x8
    apply zL_of; rw [e_X8_sums_139, if_pos (show nI 0 - 1 < 0 by decide)]
    by_cases a1 : x1 = 0
    · rw [if_pos a1, if_pos a1]; rfl
    · rw [if_neg a1, if_neg a1]
      by_cases a2 : x1 = 1
      · rw [if_pos a2, if_pos a2]; rfl
      · rw [if_neg a2, if_neg a2]; rfl
  | succ m ih =>
    intro hm c x8
    have e9 : nI (m + 1) - 1 = nI m := pk_sub (a := m + 1) (b := 1) (by omega)
    have em : nI m + (-1) = nI m - 1 := (Int32.sub_eq_add_neg _ _).symm
    have yes : p m = true → zL (zenv zbt d) tb_X8_sums cu_X8_sums 139 [none, some (.int x1), some (.int g), some (.long (lN L)), none, some (.long (lN H)), none, some (.int (nI c + 1)), some (.int x8), some (.int (nI m + (-1))), none] [] M (some (.int (if x1 = 0 then nI (c + zsum (fun v => (p v).toNat) (m + 1)) else if x1 = 1 then zld p (m + 1) x8 else g)), M) := by
      intro hp
      have := ih (by omega) (c + 1) x8
      rw [em, zld, hp, if_pos rfl, zsum, hp, show c + (zsum (fun v => (p v).toNat) m + true.toNat) = c + 1 + zsum (fun v => (p v).toNat) m by show c + (_ + 1) = _; omega, show nI c + 1 = nI (c + 1) from nI_add c 1]
      exact this
    have no : p m = false → zL (zenv zbt d) tb_X8_sums cu_X8_sums 139 [none, some (.int x1), some (.int g), some (.long (lN L)), none, some (.long (lN H)), none, some (.int (nI c + 0)), some (.int (nI m)), some (.int (nI m + (-1))), none] [] M (some (.int (if x1 = 0 then nI (c + zsum (fun v => (p v).toNat) (m + 1)) else if x1 = 1 then zld p (m + 1) x8 else g)), M) := by
      intro hp
      have := ih (by omega) c (nI m)
      rw [em, zld, hp, if_neg (show ¬ (false = true) by decide), zsum, hp, show c + (zsum (fun v => (p v).toNat) m + false.toNat) = c + zsum (fun v => (p v).toNat) m by rfl, show nI c + 0 = nI c from nI_add c 0]
      exact this
    apply zL_of; rw [e9, e_X8_sums_139, if_neg (nI_pos (by omega))]
    by_cases h50 : 50 ≤ m
    · have hq := zlbit (n := H) (v := m - 50) (by omega) (by omega)
      rw [h2 (m - 50) (by omega), show 50 + (m - 50) = m by omega, show nI (m - 50) = nI m - 50 from (pk_sub (b := 50) h50).symm] at hq
      rw [if_pos (show (50 : Int32) ≤ nI m from nI_le h50 (by omega))]
      cases hp : p m
      · rw [if_neg (fun q => by rw [hq, hp] at q; cases q), if_pos rfl, if_pos rfl]
        exact zPo_go (no hp)
      · rw [if_pos (hq.mpr hp), if_neg zn10, if_neg zn10]
        exact zPo_go (yes hp)
    · have hq := zlbit (n := L) (v := m) (by omega) (by omega)
      rw [h1 m (by omega)] at hq
      rw [if_neg (show ¬ ((50 : Int32) ≤ nI m) from nI_ge (b := 50) (Nat.lt_of_not_le h50) (by decide))]
      cases hp : p m
      · rw [if_neg (fun q => by rw [hq, hp] at q; cases q), if_pos rfl, if_pos rfl]
        exact zPo_go (no hp)
      · rw [if_pos (hq.mpr hp), if_neg zn10, if_neg zn10]
        exact zPo_go (yes hp)
theorem zneg_le {g : Nat} (hg : g < 2 ^ 31) : (-1 : Int32) ≤ nI g := by
  rw [Int32.le_iff_toInt_le, nI_toInt hg, show (-1 : Int32).toInt = -1 by decide]
  omega
theorem l_sumsA (hd : 2 ≤ d) (hW : zwf S) (hM : zMod S M) (hB : zSv S M) (x1 : Int32) {r : ZR} (hend : ∀ L H, L < 2 ^ 50 → H < 2 ^ 50 → (∀ v, v < 50 → L.testBit v = zpd S v) → (∀ v, v < 50 → H.testBit v = zpd S (50 + v)) → zL (zenv zbt d) tb_X8_sums cu_X8_sums 139 [none, some (.int x1), some (.int (nI ((zHL S).foldl (zgG S) 0))), some (.long (lN L)), none, some (.long (lN H)), none, some (.int 0), some (.int (-1000000)), some (.int 99), none] [] M r) :
    ∀ k, k ≤ 2 ^ S 0 → ∀ L H, L < 2 ^ 50 → H < 2 ^ 50 → (∀ v, v < 50 → L.testBit v = zpdR S k v) → (∀ v, v < 50 → H.testBit v = zpdR S k (50 + v)) → zL (zenv zbt d) tb_X8_sums cu_X8_sums 38 [some (.ref 66), some (.int x1), some (.int (nI ((List.range k).foldl (fun a s => if zhang S s then zgG S a s else a) 0))), some (.long (lN L)), none, some (.long (lN H)), none, some (.int (nI k)), none, none, none] [] M r := by
  have hp10 := zpow10 hW.n
  have hE : (zHL S).foldl (zgG S) 0 = (List.range (2 ^ S 0)).foldl (fun a s => if zhang S s then zgG S a s else a) 0 := (zfold_HL (fun a s _ => rfl)).symm
  apply zup
  · intro L H hL hH h1 h2
    have := hend L H hL hH (fun v hv => by rw [h1 v hv, zpdR_e]) (fun v hv => by rw [h2 v hv, zpdR_e])
    apply zL_of; rw [e_X8_sums_38, zsh1 hW hM, if_pos (nI_le (Nat.le_refl _) (by omega)), ← hE]
    exact zPo_go this
  · intro k hk ih L H hL hH h1 h2
    have hacc : (List.range k).foldl (fun a s => if zhang S s then zgG S a s else a) 0 ≤ 950 := by
      refine zfold_ok (Q := fun a => a ≤ 950) _ 0 (by omega) (fun s _ a ha => ?_)
      have := hW.pay s
      unfold zgG
      split
      · split <;> omega
      · omega
    rw [zrange_succ] at ih
    generalize (List.range k).foldl (fun a s => if zhang S s then zgG S a s else a) 0 = acc at ih hacc ⊢
    have hpay := hW.pay k
    have hby := s_paysBy (d := d) (by omega) hW hM hB hk
    have hin : ∀ x y z, (zenv zbt d).1 143 [.int x, .int y, .int z] M = some (zbi (y ≤ x ∧ x ≤ z), M) := fun x y z => s_in (by omega) x y z
    apply zL_of; rw [e_X8_sums_38, zsh1 hW hM, if_neg (nI_ge hk (by omega)), hby, Option.bind_some]
    dsimp only
    cases hc : (zheld S k && zhang S k)
    · rw [if_neg (show ¬ (false = true) by decide), if_pos (zneg_le (by omega)), hin, Option.bind_some]
      dsimp only
      rw [zbi_f (show ¬ ((0 : Int32) ≤ -1 ∧ (-1 : Int32) ≤ 49) by decide), if_pos rfl, hin, Option.bind_some]
      dsimp only
      rw [zbi_f (show ¬ ((50 : Int32) ≤ -1 ∧ (-1 : Int32) ≤ 99) by decide), if_pos rfl, zlor0, zlor0]
      have hz : ∀ v, (zhang S k && (zheld S k && zpay S k == v)) = false := by
        intro v
        cases q1 : zheld S k
        · simp
        · rw [q1] at hc
          rw [Bool.true_and] at hc
          rw [hc]; rfl
      have := ih L H hL hH (fun v hv => by rw [zpdR_s, hz, Bool.or_false]; exact h1 v hv) (fun v hv => by rw [zpdR_s, hz, Bool.or_false]; exact h2 v hv)
      have ea : (if zhang S k = true then zgG S acc k else acc) = acc := by
        cases q1 : zhang S k
        · rfl
        · rw [q1, Bool.and_true] at hc
          simp [zgG, hc]
      rw [ea] at this
      apply zPo_go
      simpa only [zlit, nI_add] using this
    · rw [Bool.and_eq_true] at hc
      have ea : (if zhang S k = true then zgG S acc k else acc) = max acc (zpay S k) := by
        simp [zgG, hc.1, hc.2]
      rw [ea] at ih
      have hz : ∀ v, zpdR S (k + 1) v = (zpdR S k v || zpay S k == v) := by
        intro v
        rw [zpdR_s, hc.1, hc.2, Bool.true_and, Bool.true_and]
      rw [if_pos rfl]
      generalize zpay S k = p at *
      have low : p < 50 → zL (zenv zbt d) tb_X8_sums cu_X8_sums 38 [some (.ref 66), some (.int x1), some (.int (nI (max acc p))), some (.long (lN L ||| zlshl 1 (nI p))), none, some (.long (lN H ||| 0)), none, some (.int (nI k + 1)), none, none, none] [] M r := by
        intro hp
        have := ih (L ||| 2 ^ p) H (Nat.or_lt_two_pow hL (Nat.pow_lt_pow_right (by decide) hp)) hH (fun v hv => by
          rw [Nat.testBit_or, h1 v hv, hz, Nat.testBit_two_pow]
          congr 1) (fun v hv => by
          rw [hz, beq_eq_false_iff_ne.mpr (show p ≠ 50 + v by omega), Bool.or_false]
          exact h2 v hv)
        rw [zl1 (by omega), zlor, zlor0]
        simpa only [zlit, nI_add] using this
      have high : 50 ≤ p → p < 100 → zL (zenv zbt d) tb_X8_sums cu_X8_sums 38 [some (.ref 66), some (.int x1), some (.int (nI (max acc p))), some (.long (lN L ||| 0)), none, some (.long (lN H ||| zlshl 1 (nI p - 50))), none, some (.int (nI k + 1)), none, none, none] [] M r := by
        intro hp hp2
        have := ih L (H ||| 2 ^ (p - 50)) hL (Nat.or_lt_two_pow hH (Nat.pow_lt_pow_right (by decide) (by omega))) (fun v hv => by
          rw [hz, beq_eq_false_iff_ne.mpr (show p ≠ v by omega), Bool.or_false]
          exact h1 v hv) (fun v hv => by
          rw [Nat.testBit_or, h2 v hv, hz, Nat.testBit_two_pow]
          congr 1
          by_cases q : p - 50 = v
          · rw [decide_eq_true q, beq_iff_eq.mpr (show p = 50 + v by omega)]
          · rw [decide_eq_false q, beq_eq_false_iff_ne.mpr (show p ≠ 50 + v by omega)])
        rw [show nI p - 50 = nI (p - 50) from pk_sub (b := 50) hp, zl1 (by omega), zlor, zlor0]
        simpa only [zlit, nI_add] using this
      have none' : 100 ≤ p → zL (zenv zbt d) tb_X8_sums cu_X8_sums 38 [some (.ref 66), some (.int x1), some (.int (nI (max acc p))), some (.long (lN L ||| 0)), none, some (.long (lN H ||| 0)), none, some (.int (nI k + 1)), none, none, none] [] M r := by
        intro hp
        have := ih L H hL hH (fun v hv => by
          rw [hz, beq_eq_false_iff_ne.mpr (show p ≠ v by omega), Bool.or_false]
          exact h1 v hv) (fun v hv => by
          rw [hz, beq_eq_false_iff_ne.mpr (show p ≠ 50 + v by omega), Bool.or_false]
          exact h2 v hv)
        rw [zlor0, zlor0]
        simpa only [zlit, nI_add] using this
      have c1 : ((0 : Int32) ≤ nI p ∧ nI p ≤ 49) ↔ p < 50 := by
        constructor
        · intro q
          have := (nI_leI (b := 49) (by omega) (by decide)).mp q.2
          omega
        · intro q
          exact ⟨nI_le (a := 0) (by omega) (by omega), nI_le (b := 49) (by omega) (by decide)⟩
      have c2 : ((50 : Int32) ≤ nI p ∧ nI p ≤ 99) ↔ (50 ≤ p ∧ p < 100) := by
        constructor
        · intro q
          have a1 := (nI_leI (a := 50) (by decide) (by omega)).mp q.1
          have a2 := (nI_leI (b := 99) (by omega) (by decide)).mp q.2
          omega
        · intro q
          exact ⟨nI_le (a := 50) (by omega) (by omega), nI_le (b := 99) (by omega) (by decide)⟩
      by_cases hg : p ≤ acc
      · rw [if_pos (nI_le hg (by omega)), hin, Option.bind_some]
        rw [Nat.max_eq_left hg] at low high none'
        dsimp only
        by_cases hp : p < 50
        · rw [zbi_t (c1.mpr hp), if_neg zn10, hin, Option.bind_some]
          dsimp only
          rw [zbi_f (fun q => by have := c2.mp q; omega), if_pos rfl]
          exact zPo_go (low hp)
        · rw [zbi_f (fun q => hp (c1.mp q)), if_pos rfl, hin, Option.bind_some]
          dsimp only
          by_cases hp2 : p < 100
          · rw [zbi_t (c2.mpr ⟨by omega, hp2⟩), if_neg zn10]
            exact zPo_go (high (by omega) hp2)
          · rw [zbi_f (fun q => hp2 (c2.mp q).2), if_pos rfl]
            exact zPo_go (none' (by omega))
      · rw [if_neg (nI_ge (by omega) (by omega)), hin, Option.bind_some]
        rw [Nat.max_eq_right (by omega)] at low high none'
        dsimp only
        by_cases hp : p < 50
        · rw [zbi_t (c1.mpr hp), if_neg zn10, hin, Option.bind_some]
          dsimp only
          rw [zbi_f (fun q => by have := c2.mp q; omega), if_pos rfl]
          exact zPo_go (low hp)
        · rw [zbi_f (fun q => hp (c1.mp q)), if_pos rfl, hin, Option.bind_some]
          dsimp only
          by_cases hp2 : p < 100
          · rw [zbi_t (c2.mpr ⟨by omega, hp2⟩), if_neg zn10]
            exact zPo_go (high (by omega) hp2)
          · rw [zbi_f (fun q => hp2 (c2.mp q).2), if_pos rfl]
            exact zPo_go (none' (by omega))
theorem a_sums (hI : zInv S M) (x : Int32) : zAl 99 198 [.int x] M := by
  have hn := hI.wf.n
  have hp10 := zpow10 hn
  have hp1 := Nat.two_pow_pos (S 0)
  by_cases h0 : S 0 = 0
  · refine zAl.of hI (r := -1000002) (fun d hd => ⟨M, ?_, zFr.rf⟩) (fun d M hd hI => ⟨M, ?_, zFr.rf⟩)
    · obtain ⟨d, rfl⟩ : ∃ e, d = e + 1 := ⟨d - 1, by omega⟩
      apply c_X7_sums
      apply zL_of; rw [e_X7_sums_0, s_isThereC (by omega) hI, Option.bind_some]
      dsimp only
      rw [zbi_f (fun q => q h0), if_pos rfl]; rfl
    · obtain ⟨d, rfl⟩ : ∃ e, d = e + 1 := ⟨d - 1, by omega⟩
      apply c_X8_sums
      apply zL_of; rw [e_X8_sums_0, hI.md.1 0 (by decide), h0, if_pos zn0]; rfl
  by_cases hx : (0 : Int32) ≤ x ∧ x ≤ 2
  · refine zAl.of hI (r := if x = 0 then nI (zsum (fun v => (zpd S v).toNat) 100) else if x = 1 then zlu (zpd S) 100 0 (-1000000) else nI ((zHL S).foldl (zgG S) 0)) (fun d hd => ?_) (fun d M hd hI => ?_)
    · obtain ⟨d, rfl⟩ : ∃ e, d = e + 1 := ⟨d - 1, by omega⟩
      obtain ⟨M1, e1, f1, p1⟩ := s_weigh (d := d) (by omega) (Or.inl rfl) hI.wf hI.sh hI.fi
      have hI1 := hI.fr (f1.mono (by decide))
      obtain ⟨M2, e2, f2, p2⟩ := s_markSums (d := d) (by omega) (Or.inl rfl) hI.wf hI1.sh hI1.fi p1
      by_cases h2 : x = 2
      · refine ⟨M1, ?_, f1.mono (by decide)⟩
        apply c_X7_sums
        apply zL_of; rw [e_X7_sums_0, s_isThereC (by omega) hI, Option.bind_some]
        dsimp only
        rw [zbi_t h0, if_neg zn10, if_neg (Int32.not_lt.mpr hx.1), if_pos hx.2, e1, Option.bind_some, if_pos h2, s_greatest (by omega) (Or.inl rfl) hI.wf hI1.sh hI1.fi p1, Option.bind_some, if_neg (by rw [h2]; decide), if_neg (by rw [h2]; decide)]; rfl
      · refine ⟨M2, ?_, (f1.mono (by decide)).trans (f2.mono (by decide))⟩
        apply c_X7_sums
        apply zL_of; rw [e_X7_sums_0, s_isThereC (by omega) hI, Option.bind_some]
        dsimp only
        rw [zbi_t h0, if_neg zn10, if_neg (Int32.not_lt.mpr hx.1), if_pos hx.2, e1, Option.bind_some, if_neg h2, e2, Option.bind_some]
        by_cases h3 : x = 0
        · rw [if_pos h3, if_pos h3, s_countSums (by omega) p2, Option.bind_some]; rfl
        · obtain ⟨w, hw1, rfl⟩ := zi_of (n := 2) (by decide) hx.1 hx.2
          have hw : w = 1 := by
            have : ¬ w = 0 := fun q => h3 (by rw [q]; rfl)
            have : ¬ w = 2 := fun q => h2 (by rw [q]; rfl)
            omega
          subst hw
          rw [if_neg h3, if_neg h3, if_pos (show nI 1 = (1 : Int32) from rfl), s_leastSum (by omega) p2, Option.bind_some]; rfl
    · obtain ⟨d, rfl⟩ : ∃ e, d = e + 1 := ⟨d - 1, by omega⟩
      obtain ⟨M1, e1, f1, p1⟩ := s_surveys (d := d) (by omega) hI.wf hI.md
      have hI1 := hI.fr (f1.mono (by decide))
      have hB := zSv_of hI.wf p1
      refine ⟨M1, ?_, f1.mono (by decide)⟩
      apply c_X8_sums
      apply zL_of; rw [e_X8_sums_0, hI.md.1 0 (by decide), if_neg (nI_ne0 (by omega) (by omega)), s_in (by omega), Option.bind_some]
      dsimp only
      rw [zbi_t hx, if_neg zn10, e1, Option.bind_some]
      apply zPo_go
      have := l_sumsA (d := d) (by omega) hI1.wf hI1.md hB x (r := (some (.int (if x = 0 then nI (zsum (fun v => (zpd S v).toNat) 100) else if x = 1 then zlu (zpd S) 100 0 (-1000000) else nI ((zHL S).foldl (zgG S) 0))), M1)) (fun L H hL hH h1 h2 => by
        have := l_sumsB (d := d) (M := M1) hL hH h1 h2 x (nI ((zHL S).foldl (zgG S) 0)) 100 (by omega) 0 (-1000000)
        rw [Nat.zero_add, zld_lu] at this
        exact this) 1 (by omega) 0 0 (by decide) (by decide) (fun v hv => by simp [zpdR, List.range_succ, zhang]) (fun v hv => by simp [zpdR, List.range_succ, zhang])
      have e0 : (List.range 1).foldl (fun a s => if zhang S s then zgG S a s else a) 0 = 0 := by
        simp [List.range_succ, zhang]
      rw [e0] at this
      exact this
  · refine zAl.of hI (r := -1000001) (fun d hd => ⟨M, ?_, zFr.rf⟩) (fun d M hd hI => ⟨M, ?_, zFr.rf⟩)
    · obtain ⟨d, rfl⟩ : ∃ e, d = e + 1 := ⟨d - 1, by omega⟩
      apply c_X7_sums
      apply zL_of; rw [e_X7_sums_0, s_isThereC (by omega) hI, Option.bind_some]
      dsimp only
      rw [zbi_t h0, if_neg zn10]
      by_cases h1 : x < 0
      · rw [if_pos h1]; rfl
      · rw [if_neg h1, if_neg (fun q => hx ⟨Int32.not_lt.mp h1, q⟩)]; rfl
    · obtain ⟨d, rfl⟩ : ∃ e, d = e + 1 := ⟨d - 1, by omega⟩
      apply c_X8_sums
      apply zL_of; rw [e_X8_sums_0, hI.md.1 0 (by decide), if_neg (nI_ne0 (by omega) (by omega)), s_in (by omega), Option.bind_some]
      dsimp only
      rw [zbi_f hx, if_pos rfl]; rfl
end ZX41

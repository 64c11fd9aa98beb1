/-! Whom to serve with what: the class -/
theorem zuc : ∀ c, c < 32 → (((nI c).toUInt32 &&& Int32.toUInt32 31).toBitVec % 32).toNat = c := by decide +kernel
theorem zushrN {a c : Nat} (ha : a < 2 ^ 32) (hc : c < 32) : zushr (nI a) (nI c) = nI (a / 2 ^ c) := pk_ushrN ha _ c (zuc c hc)
theorem zubitN {a c : Nat} (ha : a < 2 ^ 32) (hc : c < 32) : zushr (nI a) (nI c) &&& 1 = nI (a.testBit c).toNat := by
  rw [zushrN ha hc, zlit, zand]
  congr 1
  rw [Nat.testBit_eq_decide_div_mod_eq, Nat.and_one_is_mod]
  by_cases h : a / 2 ^ c % 2 = 1
  · simp [h]
  · have : a / 2 ^ c % 2 = 0 := by omega
    simp [this]
theorem zubit0 {a c : Nat} (ha : a < 2 ^ 32) (hc : c < 32) : (zushr (nI a) (nI c) &&& 1 = 0) ↔ a.testBit c = false := by
  rw [zubitN ha hc]
  cases a.testBit c <;> decide
theorem zWO : ∀ c, c < 5 → zWITHOUT.getD c 0 = nI (zWc c) := by decide
theorem zxor_part {s p : Nat} (h : p &&& s = p) : s ^^^ p = zdif s p := by
  unfold zdif
  rw [Nat.and_comm s p, h]
theorem zheld_iff {S : Nat → Nat} {s : Nat} : zheld S s = true ↔ ∀ i, s.testBit i = true → (zon S).testBit i = true := by
  unfold zheld
  rw [beq_iff_eq, zdif_0]
theorem zheld_part {S : Nat → Nat} {s t : Nat} (h : zheld S s = true) (ht : t &&& s = t) : zheld S t = true := zheld_iff.mpr (fun i hi => zheld_iff.mp h i (zpart.mp ht i hi))
theorem zdif_part (s p : Nat) : zdif s p &&& s = zdif s p := zpart.mpr (fun i hi => by
  rw [zdif_bit, Bool.and_eq_true] at hi
  exact hi.1)
theorem zpart_le {s t : Nat} (h : t &&& s = t) : t ≤ s := by rw [← h]; exact Nat.and_le_right
theorem ztmem {L : List Nat} {i x s : Nat} (h : L[i]? = some x) : s ∈ L.take (i + 1) ↔ s ∈ L.take i ∨ s = x := by
  rw [List.take_succ, h]
  simp
section ZX42
variable {d : Nat} {M : ZM} {S : Nat → Nat} {b : Nat}
theorem s_withOne (hd : 1 ≤ d) {t who : Nat} (hw : who < 32) : (zenv zbt d).1 30 [.int (nI t), .int (nI who)] M = some (nI (zwo t who), M) := by
  obtain ⟨d, rfl⟩ : ∃ e, d = e + 1 := ⟨d - 1, by omega⟩
  have key : ∀ i, i ≤ 5 → zL (zenv zbt d) tb_X2_withOneMore cu_X2_withOneMore 4 [some (.int (nI t)), some (.int (nI who)), some (.int (nI (zors (fun c => if who.testBit c then (t &&& zWc c) * 2 ^ (2 ^ c) else 0) i))), some (.int (nI i))] [] M (some (.int (nI (zwo t who))), M) := by
    apply zup
    · apply zL_of; rw [e_X2_withOneMore_4, if_pos (by decide)]; rfl
    · intro i hi ih
      have h32 : 2 ^ i < 32 := (Nat.pow_lt_pow_right (by decide) hi : 2 ^ i < 2 ^ 5)
      apply zL_of; rw [e_X2_withOneMore_4, if_neg (show ¬ ((5 : Int32) ≤ nI i) from nI_ge hi (by decide))]
      cases h : who.testBit i
      · rw [if_pos ((zbit0 (by omega) (by omega)).mpr h)]
        apply zPo_go
        simpa only [zlit, nI_add, zors, h, Bool.false_eq_true, if_false, Nat.or_zero] using ih
      · rw [if_neg (fun q => by rw [zbit0 (by omega) (by omega), h] at q; cases q), zck_t (zinN hi (by decide)), zcN (by omega), zWO i hi, zand, show zshl 1 (nI i) = nI (2 ^ i) from zshl1 (by omega), zshlN h32, zor]
        apply zPo_go
        simpa only [zlit, nI_add, zors, h, if_true] using ih
  apply c_X2_withOneMore
  apply zL_of; rw [e_X2_withOneMore_0]; apply zPo_go
  exact key 0 (by omega)
theorem s_suitedBy (hd : 2 ≤ d) (hb : zsh b) (hW : zwf S) (hS : zSheet S b M) {p : Nat} (hp : p < 2 ^ 31) : (zenv zbt d).1 27 [.ref 53, .ref b, .int (nI p)] M = some (nI (zsuP S p), M) := by
  obtain ⟨d, rfl⟩ : ∃ e, d = e + 1 := ⟨d - 1, by omega⟩
  have h2 := hS.2.2.1
  have hm5 := hW.m
  have key : ∀ i, i ≤ S 2 → zL (zenv zbt d) tb_X2_suitedBy cu_X2_suitedBy 5 [none, some (.ref b), some (.int (nI p)), some (.int (nI (zors (fun c => if S (26 + c) = 0 ∧ S (13 + c) ≤ p ∧ p ≤ S (18 + c) then 2 ^ c else 0) i))), some (.int (nI i))] [] M (some (.int (nI (zsuP S p))), M) := by
    apply zup
    · apply zL_of; rw [e_X2_suitedBy_5 _ _ _ hb, h2, if_pos (nI_le (Nat.le_refl _) (by omega))]; rfl
    · intro i hi ih
      apply zL_of; rw [e_X2_suitedBy_5 _ _ _ hb, h2, if_neg (nI_ge hi (by omega)), s_isServed (by omega) hb hW hS hi, Option.bind_some]
      dsimp only
      by_cases h : S (26 + i) = 0
      · rw [zbi_f (fun q => q h), if_pos rfl, s_suits (by omega) hb hW hS hi hp, Option.bind_some]
        dsimp only
        by_cases h3 : S (13 + i) ≤ p ∧ p ≤ S (18 + i)
        · rw [zbi_t h3, if_neg zn10, show zshl 1 (nI i) = nI (2 ^ i) from zshl1 (by omega)]
          apply zPo_go
          have h4 : S (26 + i) = 0 ∧ S (13 + i) ≤ p ∧ p ≤ S (18 + i) := ⟨h, h3⟩
          simpa only [zlit, nI_add, zor, zors, if_pos h4] using ih
        · rw [zbi_f h3, if_pos rfl]
          apply zPo_go
          have h4 : ¬ (S (26 + i) = 0 ∧ S (13 + i) ≤ p ∧ p ≤ S (18 + i)) := fun q => h3 q.2
          simpa only [zlit, nI_add, zor, zors, if_neg h4] using ih
      · rw [zbi_t h, if_neg zn10]
        apply zPo_go
        have h4 : ¬ (S (26 + i) = 0 ∧ S (13 + i) ≤ p ∧ p ≤ S (18 + i)) := fun q => h q.1
        simpa only [zlit, nI_add, zor, zors, if_neg h4] using ih
  apply c_X2_suitedBy
  apply zL_of; rw [e_X2_suitedBy_0 _ _ _ hb]; apply zPo_go
  exact key 0 (by omega)
theorem s_findSuited (hd : 3 ≤ d) (hb : zsh b) (hW : zwf S) (hS : zSheet S b M) (hF : zFin S M) (hP : ∀ i x, (zHL S)[i]? = some x → M.1 56 i = nI (zpay S x)) : ∃ M', (zenv zbt d).2.2 26 [.ref 53, .ref b] M = some M' ∧ zFr [57] M M' ∧ ∀ s, s < 2 ^ S 0 → M'.1 57 s = nI (zsu S s) := by
  obtain ⟨d, rfl⟩ : ∃ e, d = e + 1 := ⟨d - 1, by omega⟩
  have hlen := zHL_len hW
  have hp10 := zpow10 hW.n
  have hbc : ∀ j, j < 7 → b + j ∉ [57] := by
    intro j hj
    rcases hb with rfl | rfl <;> simp <;> omega
  have key : ∀ k, k ≤ (zHL S).length → ∀ Mk, zFr [57] M Mk → (∀ s, s < 1024 → Mk.1 57 s = nI (if s ∈ (zHL S).take k then zsu S s else 0)) → ∃ M', zL (zenv zbt d) tb_X2_findSuited cu_X2_findSuited 10 [some (.ref 53), some (.ref b), some (.int (nI k))] [] Mk (none, M') ∧ zFr [57] M M' ∧ ∀ s, s < 2 ^ S 0 → M'.1 57 s = nI (zsu S s) := by
    apply zup
    · intro Mk hf hv
      rw [List.take_length] at hv
      refine ⟨Mk, ?_, hf, fun s hs => ?_⟩
      · apply zL_of; rw [e_X2_findSuited_10 _ _ _ hb, (hf 53 (by decide)).1, hF.2.1, if_pos (nI_le (Nat.le_refl _) (by omega))]; rfl
      · rw [hv s (by omega)]
        by_cases hm : s ∈ zHL S
        · rw [if_pos hm]
        · rw [if_neg hm]
          have hz : zhang S s = false := by
            cases q : zhang S s
            · rfl
            · exact absurd (by unfold zHL; rw [List.mem_filter, List.mem_range]; exact ⟨hs, q⟩) hm
          unfold zsu
          rw [hz, Bool.and_false, if_neg (by decide)]
    · intro k hk ih Mk hf hv
      obtain ⟨x, hx⟩ : ∃ x, (zHL S)[k]? = some x := ⟨_, List.getElem?_eq_getElem hk⟩
      have hxm := zHL_mem hx
      have hSk := hS.fr hf hbc
      have hpay := hW.pay x
      by_cases hh : zdif x (zon S) = 0
      · have e : zheld S x = true := by unfold zheld; rw [hh]; rfl
        have ez : zsu S x = zsuP S (zpay S x) := by unfold zsu; rw [e, hxm.2.1]; rfl
        obtain ⟨M', h1, h2, h3⟩ := ih (zw Mk 57 x (nI (zsuP S (zpay S x)))) (hf.w (by decide)) (fun s hs => by
          rw [zw_at]
          by_cases es : s = x
          · subst es
            rw [if_pos ⟨rfl, rfl⟩, if_pos ((ztmem hx).mpr (Or.inr rfl)), ez]
          · rw [if_neg (fun q => es q.2), hv s hs]
            by_cases hm : s ∈ (zHL S).take k
            · rw [if_pos hm, if_pos ((ztmem hx).mpr (Or.inl hm))]
            · rw [if_neg hm, if_neg (fun q => by
                rcases (ztmem hx).mp q with q | q
                · exact hm q
                · exact es q)])
        refine ⟨M', ?_, h2, h3⟩
        apply zL_of; rw [e_X2_findSuited_10 _ _ _ hb, (hf 53 (by decide)).1, hF.2.1, if_neg (nI_ge hk (by omega)), zck_t (zinN (by omega) (by decide)), zcN (by omega), (hf 55 (by decide)).1, hF.2.2 k x hx, s_holds (by omega) hb hW hSk (by omega), Option.bind_some]
        dsimp only
        rw [zbi_t hh, if_neg zn10, zck_t (zinN (by omega) (by decide)), zck_t (zinN (by omega) (by decide)), (hf 56 (by decide)).1, hP k x hx, (hf 55 (by decide)).1, hF.2.2 k x hx, s_suitedBy (by omega) hb hW hSk (by omega), Option.bind_some]
        dsimp only
        rw [zck_t (zinN (by omega) (by decide)), zcN (by omega)]
        apply zPo_go
        simpa only [zlit, nI_add] using h1
      · have e : zheld S x = false := by
          unfold zheld
          exact beq_eq_false_iff_ne.mpr hh
        have ez : zsu S x = 0 := by unfold zsu; rw [e, Bool.false_and, if_neg (by decide)]
        obtain ⟨M', h1, h2, h3⟩ := ih Mk hf (fun s hs => by
          rw [hv s hs]
          by_cases es : s = x
          · subst es
            rw [ez]
            split <;> split <;> rfl
          · by_cases hm : s ∈ (zHL S).take k
            · rw [if_pos hm, if_pos ((ztmem hx).mpr (Or.inl hm))]
            · rw [if_neg hm, if_neg (fun q => by
                rcases (ztmem hx).mp q with q | q
                · exact hm q
                · exact es q)])
        refine ⟨M', ?_, h2, h3⟩
        apply zL_of; rw [e_X2_findSuited_10 _ _ _ hb, (hf 53 (by decide)).1, hF.2.1, if_neg (nI_ge hk (by omega)), zck_t (zinN (by omega) (by decide)), zcN (by omega), (hf 55 (by decide)).1, hF.2.2 k x hx, s_holds (by omega) hb hW hSk (by omega), Option.bind_some]
        dsimp only
        rw [zbi_f hh, if_pos rfl]
        apply zPo_go
        simpa only [zlit, nI_add] using h1
  obtain ⟨M', h1, h2, h3⟩ := key 0 (by omega) (zfl M 57 0 (zln 57) 0) (zFr.rf.fl (by decide)) (fun s hs => by
    rw [zfl_at, if_pos ⟨rfl, by omega, by show s < 0 + 1024; omega⟩, if_neg (by simp)]; rfl)
  refine ⟨M', ?_, h2, h3⟩
  apply c_X2_findSuited
  apply zL_of; rw [e_X2_findSuited_0 _ _ _ hb, s_fill (by omega) (by decide) (by decide), Option.bind_some]
  exact zPo_go h1
/-- the class's tables -/
def zTab (S : Nat → Nat) (M : ZM) (s : Nat) : Prop := (∀ t, t < 2 ^ S 0 → M.1 57 t = nI (zsu S t)) ∧ ∀ t, t < s → zheld S t = true → M.1 58 t = nI (zcn S t)
theorem l_servable (hd : 1 ≤ d) (hW : zwf S) {s : Nat} (hs : s < 2 ^ S 0) (h0 : s ≠ 0) (hh : zheld S s = true) (hT : zTab S M s) : ∀ n m x acc, m < n → m &&& zdif s (2 ^ zlow s) = m → x < 1024 → x &&& zdif s (2 ^ zlow s) = m → zL (zenv zbt d) tb_X2_servableBy cu_X2_servableBy 20 [some (.ref 53), some (.int (nI s)), some (.int (nI (2 ^ zlow s))), some (.int (nI (zdif s (2 ^ zlow s)))), some (.int (nI acc)), some (.int (nI x)), none] [] M (some (.int (nI (acc ||| zst (zcf S s) (zdif s (2 ^ zlow s)) n m))), M) := by
  have hp10 := zpow10 hW.n
  have hs10 : s < 1024 := by omega
  obtain ⟨l1, l2, l3⟩ := zlow_lt s hs10 h0
  intro n
  induction n with
  | zero => intro m x acc hm; omega
  | succ n ih =>
    intro m x acc hm hmr hx hxm
    have hm10 : m < 1024 := Nat.lt_of_le_of_lt (by rw [← hxm]; exact Nat.and_le_left) hx
    have hqs : (2 ^ zlow s ||| m) &&& s = 2 ^ zlow s ||| m := zpart.mpr (fun i hi => by
      rw [Nat.testBit_or, Bool.or_eq_true] at hi
      rcases hi with hi | hi
      · rw [z2b] at hi
        subst hi
        exact l2
      · have := zpart.mp hmr i hi
        rw [zdif_bit, Bool.and_eq_true] at this
        exact this.1)
    have hql : (2 ^ zlow s ||| m).testBit (zlow s) = true := by rw [Nat.testBit_or, z2b.mpr rfl, Bool.true_or]
    have hqle := zpart_le hqs
    have hdlt := zdif_lt3 l2 hql
    have hdh : zheld S (zdif s (2 ^ zlow s ||| m)) = true := zheld_part hh (zdif_part _ _)
    have hsu := zsu_lt hW (2 ^ zlow s ||| m)
    have next : ∀ acc', zL (zenv zbt d) tb_X2_servableBy cu_X2_servableBy 20 [some (.ref 53), some (.int (nI s)), some (.int (nI (2 ^ zlow s))), some (.int (nI (zdif s (2 ^ zlow s)))), some (.int (nI acc')), some (.int (nI m + (-1))), none] [] M (some (.int (nI (acc' ||| (if m = 0 then 0 else zst (zcf S s) (zdif s (2 ^ zlow s)) n ((m - 1) &&& zdif s (2 ^ zlow s)))))), M) := by
      intro acc'
      by_cases hm0 : m = 0
      · subst hm0
        rw [if_pos rfl, Nat.or_zero]
        apply zL_of; rw [e_X2_servableBy_20, if_pos (by decide)]; rfl
      · obtain ⟨k, rfl⟩ : ∃ k, m = k + 1 := ⟨m - 1, by omega⟩
        rw [if_neg hm0, pk_m1]
        have hk := zm1 (r := zdif s (2 ^ zlow s)) hm0
        exact ih _ k acc' (by omega) (zsub_and _ _) (by omega) rfl
    apply zL_of; rw [e_X2_servableBy_20, if_neg (nI_pos (by omega)), zand, hxm, zor, zck_t (zinN (by omega) (by decide)), zcN (by omega), hT.1 _ (by omega)]
    rw [zst]
    by_cases hz : zsu S (2 ^ zlow s ||| m) = 0
    · rw [if_pos (by rw [hz]; rfl)]
      have : zcf S s m = 0 := by unfold zcf; rw [hz, zwo_0]
      rw [this, Nat.zero_or]
      exact zPo_go (next acc)
    · rw [if_neg (nI_ne0 (by omega) (by omega)), zxor, zxor_part hqs, zck_t (zinN (by omega) (by decide)), zck_t (zinN (by omega) (by decide)), zcN (by omega), hT.2 _ hdlt hdh, s_withOne hd hsu, Option.bind_some]
      dsimp only
      rw [zor, ← Nat.or_assoc]
      exact zPo_go (next _)
theorem s_servableBy (hd : 2 ≤ d) (hW : zwf S) {s : Nat} (hs : s < 2 ^ S 0) (h0 : s ≠ 0) (hh : zheld S s = true) (hT : zTab S M s) : (zenv zbt d).1 29 [.ref 53, .int (nI s)] M = some (nI (zcn S s), M) := by
  obtain ⟨d, rfl⟩ : ∃ e, d = e + 1 := ⟨d - 1, by omega⟩
  have hp10 := zpow10 hW.n
  have hs10 : s < 1024 := by omega
  obtain ⟨l1, l2, l3⟩ := zlow_lt s hs10 h0
  have hlt := zdif_lt2 l2
  apply c_X2_servableBy
  apply zL_of; rw [e_X2_servableBy_0, s_lowestOneBit (by omega) hs10 h0, Option.bind_some]
  dsimp only
  rw [zxor, zxor_bit l2, zck_t (zinN (by omega) (by decide)), zcN (by omega), hT.2 _ hlt (zheld_part hh (zdif_part _ _))]
  apply zPo_go
  rw [zcn_eq hs10 h0]
  exact l_servable (by omega) hW hs h0 hh hT 1024 _ _ _ (by omega) (Nat.and_self _) (by omega) (Nat.and_self _)
theorem s_findServable (hd : 3 ≤ d) (hb : zsh b) (hW : zwf S) (hS : zSheet S b M) (hT : ∀ t, t < 2 ^ S 0 → M.1 57 t = nI (zsu S t)) : ∃ M', (zenv zbt d).2.2 28 [.ref 53, .ref b] M = some M' ∧ zFr [58] M M' ∧ zTab S M' (zon S + 1) := by
  obtain ⟨d, rfl⟩ : ∃ e, d = e + 1 := ⟨d - 1, by omega⟩
  have hp10 := zpow10 hW.n
  have hon := zon_lt (S := S)
  have hbc : ∀ j, j < 7 → b + j ∉ [58] := by
    intro j hj
    rcases hb with rfl | rfl <;> simp <;> omega
  have key : ∀ s, s ≤ zon S + 1 → 1 ≤ s → ∀ M1, zFr [58] M M1 → zTab S M1 s → ∃ M', zL (zenv zbt d) tb_X2_findServable cu_X2_findServable 9 [some (.ref 53), some (.ref b), some (.int (nI s))] [] M1 (none, M') ∧ zFr [58] M M' ∧ zTab S M' (zon S + 1) := by
    apply zup
    · intro _ M1 f1 g1
      have hS1 := hS.fr f1 hbc
      refine ⟨M1, ?_, f1, g1⟩
      apply zL_of; rw [e_X2_findServable_9 _ _ _ hb, hS1.2.2.2.2.2.1, if_pos (nI_lt (by omega) (by omega))]; rfl
    · intro s hs ih h1 M1 f1 g1
      have hS1 := hS.fr f1 hbc
      cases hh : zheld S s
      · obtain ⟨M', hL, f', g'⟩ := ih (by omega) M1 f1 ⟨g1.1, fun t ht hth => by
          by_cases e : t = s
          · rw [e, hh] at hth; cases hth
          · exact g1.2 t (by omega) hth⟩
        refine ⟨M', ?_, f', g'⟩
        have hne : ¬ zdif s (zon S) = 0 := by
          intro q
          unfold zheld at hh
          rw [q] at hh
          cases hh
        apply zL_of; rw [e_X2_findServable_9 _ _ _ hb, hS1.2.2.2.2.2.1, if_neg (nI_nlt (by omega) (by omega)), if_neg (show ¬ ((1024 : Int32) ≤ nI s) from nI_ge (show s < 1024 by omega) (by decide)), s_holds (by omega) hb hW hS1 (by omega), Option.bind_some]
        dsimp only
        rw [zbi_f hne, if_pos rfl, nI_1]
        exact zPo_go hL
      · obtain ⟨M', hL, f', g'⟩ := ih (by omega) (zw M1 58 s (nI (zcn S s))) (f1.w (by decide)) ⟨fun t ht => by rw [zw_nc (by decide)]; exact g1.1 t ht, fun t ht hth => by
          by_cases e : t = s
          · rw [e, zw_eq]
          · rw [zw_nk e]; exact g1.2 t (by omega) hth⟩
        refine ⟨M', ?_, f', g'⟩
        have hne : zdif s (zon S) = 0 := by
          unfold zheld at hh
          exact beq_iff_eq.mp hh
        apply zL_of; rw [e_X2_findServable_9 _ _ _ hb, hS1.2.2.2.2.2.1, if_neg (nI_nlt (by omega) (by omega)), if_neg (show ¬ ((1024 : Int32) ≤ nI s) from nI_ge (show s < 1024 by omega) (by decide)), s_holds (by omega) hb hW hS1 (by omega), Option.bind_some]
        dsimp only
        rw [zbi_t hne, if_neg zn10, s_servableBy (by omega) hW (by omega) (by omega) hh g1, Option.bind_some]
        dsimp only
        rw [zck_t (zinN (by omega) (by decide)), zcN (by omega), nI_1]
        exact zPo_go hL
  obtain ⟨M', hL, f', g'⟩ := key 1 (by omega) (by omega) (zw M 58 0 1) (zFr.rf.w (by decide)) ⟨fun t ht => by rw [zw_nc (by decide)]; exact hT t ht, fun t ht _ => by
    rw [show t = 0 by omega, zw_eq, zcn_0]; rfl⟩
  refine ⟨M', ?_, f', g'⟩
  apply c_X2_findServable
  apply zL_of; rw [e_X2_findServable_0 _ _ _ hb]
  exact zPo_go hL
theorem s_canServe (hd : 1 ≤ d) {s t w : Nat} (hs : s < 1024) (h : M.1 58 s = nI t) (ht : t < 2 ^ 32) (hw : w < 32) : (zenv zbt d).1 31 [.ref 53, .int (nI s), .int (nI w)] M = some (zbi (t.testBit w = true), M) := by
  obtain ⟨d, rfl⟩ : ∃ e, d = e + 1 := ⟨d - 1, by omega⟩
  apply c_X2_canServe
  apply zL_of; rw [e_X2_canServe_0, zck_t (zinN hs (by decide)), zcN (by omega), h]
  cases q : t.testBit w
  · rw [if_pos ((zubit0 ht hw).mpr q), zbi_f (by decide)]; rfl
  · rw [if_neg (fun q2 => by rw [zubit0 ht hw, q] at q2; cases q2), zbi_t rfl]; rfl
/-- the most who can be served -/
def zmG (S : Nat → Nat) (a w : Nat) : Nat := if (zcn S (zon S)).testBit w = true ∧ zpop a < zpop w then w else a
def zmost (S : Nat → Nat) : Nat := (List.range 32).foldl (zmG S) 0
theorem zmG_ok (hW : zwf S) : ∀ k, k ≤ 32 → (List.range k).foldl (zmG S) 0 < 32 ∧ (zcn S (zon S)).testBit ((List.range k).foldl (zmG S) 0) = true := by
  intro k
  induction k with
  | zero => intro _; exact ⟨(by decide : 0 < 32), zcn_b0 _ hW.on⟩
  | succ k ih =>
    intro hk
    obtain ⟨h1, h2⟩ := ih (by omega)
    rw [zrange_succ]
    generalize (List.range k).foldl (zmG S) 0 = a at h1 h2
    unfold zmG
    split
    · rename_i h
      exact ⟨by omega, h.1⟩
    · exact ⟨h1, h2⟩
theorem s_mostServed (hd : 4 ≤ d) (hb : zsh b) (hW : zwf S) (hS : zSheet S b M) (hF : zFin S M) (hP : ∀ i x, (zHL S)[i]? = some x → M.1 56 i = nI (zpay S x)) : ∃ M', (zenv zbt d).1 25 [.ref 53, .ref b] M = some (nI (zmost S), M') ∧ zFr [57, 58] M M' ∧ zTab S M' (zon S + 1) := by
  obtain ⟨d, rfl⟩ : ∃ e, d = e + 1 := ⟨d - 1, by omega⟩
  have hbc : ∀ j, j < 7 → b + j ∉ [57, 58] := by
    intro j hj
    rcases hb with rfl | rfl <;> simp <;> omega
  obtain ⟨M1, e1, f1, g1⟩ := s_findSuited (d := d) (by omega) hb hW hS hF hP
  have hS1 := hS.fr (f1.mono (cs' := [57, 58]) (by decide)) hbc
  obtain ⟨M2, e2, f2, g2⟩ := s_findServable (d := d) (by omega) hb hW hS1 g1
  have f12 : zFr [57, 58] M M2 := (f1.mono (by decide)).trans (f2.mono (by decide))
  have hS2 := hS.fr f12 hbc
  have hon := hW.on
  refine ⟨M2, ?_, f12, g2⟩
  have hto : M2.1 58 (zon S) = nI (zcn S (zon S)) := g2.2 _ (by omega) (zheld_iff.mpr (fun i hi => hi))
  have hcl := zcn_lt (S := S) (zon S) hon
  have key : ∀ k, k ≤ 32 → 1 ≤ k → zL (zenv zbt d) tb_X2_mostServed cu_X2_mostServed 14 [some (.ref 53), some (.ref b), some (.int (nI ((List.range k).foldl (zmG S) 0))), some (.int (nI k))] [] M2 (some (.int (nI (zmost S))), M2) := by
    apply zup
    · intro _
      apply zL_of; rw [e_X2_mostServed_14 _ _ _ hb, if_pos (by decide)]; rfl
    · intro k hk ih h1
      have ha := (zmG_ok hW k (by omega)).1
      have ih := ih (by omega)
      rw [zrange_succ] at ih
      generalize (List.range k).foldl (zmG S) 0 = a at ih ha ⊢
      have p1 := zpop_le a
      have p2 := zpop_le k
      apply zL_of; rw [e_X2_mostServed_14 _ _ _ hb, if_neg (show ¬ ((32 : Int32) ≤ nI k) from nI_ge hk (by decide)), hS2.2.2.2.2.2.1, s_canServe (by omega) hon hto hcl hk, Option.bind_some]
      dsimp only
      cases hq : (zcn S (zon S)).testBit k
      · rw [zbi_f (by decide), if_pos rfl, nI_1]
        have : zmG S a k = a := by unfold zmG; rw [if_neg (fun q => by rw [hq] at q; cases q.1)]
        rw [this] at ih
        exact zPo_go ih
      · rw [zbi_t rfl, if_neg zn10, s_bitCount (by omega) (by omega), Option.bind_some]
        dsimp only
        rw [s_bitCount (by omega) (by omega), Option.bind_some]
        dsimp only
        by_cases hp : zpop a < zpop k
        · rw [if_neg (nI_ge hp (by omega)), nI_1]
          have : zmG S a k = k := by unfold zmG; rw [if_pos ⟨hq, hp⟩]
          rw [this] at ih
          exact zPo_go ih
        · rw [if_pos (nI_le (by omega) (by omega)), nI_1]
          have : zmG S a k = a := by unfold zmG; rw [if_neg (fun q => hp q.2)]
          rw [this] at ih
          exact zPo_go ih
  apply c_X2_mostServed
  apply zL_of; rw [e_X2_mostServed_0 _ _ _ hb, e1, Option.bind_some, e2, Option.bind_some]
  apply zPo_go
  have := key 1 (by omega) (by omega)
  have e0 : (List.range 1).foldl (zmG S) 0 = 0 := by
    show zmG S 0 0 = 0
    unfold zmG
    split <;> rfl
  rw [e0] at this
  exact this
end ZX42

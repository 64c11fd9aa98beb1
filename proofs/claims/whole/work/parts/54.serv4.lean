/-! Whom to serve with what: the reference; both -/
theorem zl4 : (4294967295 : Int64) = lN 4294967295 := rfl
theorem zl4n : (-4294967296 : Int64) = lN 18446744069414584320 := by decide
theorem zl1' : (1 : Int64) = lN 1 := rfl
/-- the upper half of the board -/
def zhi (S : Nat → Nat) (s : Nat) : Nat := if zhang S s then zpay S s + 1 else 0
theorem zhi_lt {S : Nat → Nat} (hW : zwf S) (s : Nat) : zhi S s < 1024 := by
  have := hW.pay s
  unfold zhi
  split <;> omega
theorem zllo {p t : Nat} (ht : t < 2 ^ 32) : lN (p * 2 ^ 32 + t) &&& 4294967295 = lN t := by
  rw [zl4, zland, show (4294967295 : Nat) = 2 ^ 32 - 1 by decide, Nat.and_two_pow_sub_one_eq_mod]
  congr 1
  omega
theorem zlhm {p : Nat} (hp : p < 1024) : lN (p * 2 ^ 32) &&& (-4294967296) = lN (p * 2 ^ 32) := by
  rw [zl4n, zland]
  congr 1
  rw [show (18446744069414584320 : Nat) = (2 ^ 32 - 1) * 2 ^ 32 by decide]
  apply Nat.eq_of_testBit_eq
  intro i
  rw [Nat.testBit_and, Nat.testBit_mul_two_pow, Nat.testBit_mul_two_pow, Nat.testBit_two_pow_sub_one]
  cases h : p.testBit (i - 32)
  · simp
  · have : i - 32 < 10 := zlt_of_bit hp h
    rw [decide_eq_true (show i - 32 < 32 by omega)]
    simp
theorem zlput {p t : Nat} (ht : t < 2 ^ 32) : lN (p * 2 ^ 32) ||| lN t = lN (p * 2 ^ 32 + t) := by
  rw [zlor, Nat.mul_comm p, Nat.two_pow_add_eq_or_of_lt ht]
theorem zltb {p t w : Nat} (ht : t < 2 ^ 32) (hw : w < 32) : (p * 2 ^ 32 + t).testBit w = t.testBit w := by
  rw [Nat.mul_comm p, Nat.testBit_two_pow_mul_add _ ht, if_pos hw]
section ZX44
variable {d : Nat} {M : ZM} {S : Nat → Nat}
/-- the board when the sets below s are done -/
def zBd2 (S : Nat → Nat) (M : ZM) (s : Nat) : Prop := ∀ t, t < 2 ^ S 0 → M.2 78 t = lN (zhi S t * 2 ^ 32 + (if t < s then (if zheld S t then zcn S t else 1) else 0))
theorem zBd2_lo (hW : zwf S) (t s : Nat) (ht : t < 1024) : (if t < s then (if zheld S t then zcn S t else 1) else 0) < 2 ^ 32 := by
  have := zcn_lt (S := S) t ht
  split
  · split <;> omega
  · decide
theorem zBd2.sv {s : Nat} (hW : zwf S) (h : zBd2 S M s) : zSv S M := fun t ht => by
  have hp10 := zpow10 hW.n
  rw [h t ht]
  exact zlhi (zhi_lt hW t) (zBd2_lo hW t s (by omega))
theorem zBd2.at {s t : Nat} (hW : zwf S) (h : zBd2 S M s) (ht : t < s) (hh : zheld S t = true) : M.2 78 t = lN (zhi S t * 2 ^ 32 + zcn S t) := by
  rw [h t (zheld_lt hh), if_pos ht, if_pos hh]
theorem zBd2.lo {s t : Nat} (hW : zwf S) (h : zBd2 S M s) (ht : t < s) (hh : zheld S t = true) : M.2 78 t &&& 4294967295 = lN (zcn S t) := by
  have hp10 := zpow10 hW.n
  have := zheld_lt hh
  rw [h.at hW ht hh, zllo (zcn_lt t (by omega))]
theorem zBd2.put {s v : Nat} (hW : zwf S) (h : zBd2 S M s) (hs : s < 2 ^ S 0) (hv : v = if zheld S s then zcn S s else 1) : zBd2 S (zwl M 78 s ((M.2 78 s &&& (-4294967296)) ||| lN v)) (s + 1) := by
  have hp10 := zpow10 hW.n
  intro t ht
  by_cases e : t = s
  · subst e
    have hlo := zBd2_lo (S := S) hW t (t + 1) (by omega)
    rw [if_pos (by omega)] at hlo ⊢
    rw [zwl_eq, h t ht, if_neg (by omega), Nat.add_zero, zlhm (zhi_lt hW t), hv, zlput hlo]
  · rw [zwl_nk e, h t ht]
    by_cases h1 : t < s
    · rw [if_pos h1, if_pos (show t < s + 1 by omega)]
    · rw [if_neg h1, if_neg (show ¬ t < s + 1 by omega)]
theorem zserved_bit {c : Nat} (hc : c < S 2) : (zserved S).testBit c = true ↔ S (26 + c) ≠ 0 := by
  unfold zserved
  rw [zors_bit]
  constructor
  · rintro ⟨e, he, h⟩
    split at h
    · simp at h
    · rename_i h2
      rw [z2b] at h
      subst h
      exact h2
  · intro h
    exact ⟨c, hc, by rw [if_neg h, z2b]⟩
theorem zserved_lt (hW : zwf S) : zserved S < 32 := by
  have h5 := hW.m
  have : zserved S < 2 ^ S 2 := zors_lt (fun i hi => by
    split
    · exact Nat.two_pow_pos _
    · exact Nat.pow_lt_pow_right (by decide) hi)
  exact Nat.lt_of_lt_of_le this (Nat.pow_le_pow_right (n := 2) (by decide) h5)
/-- one part of the set: what can be served with it -/
theorem l_serveC (hd : 1 ≤ d) (hW : zwf S) (hM : zMod S M) (hC : ∀ c, c < 5 → M.2 80 c = lN (zWc c)) {s p t acc : Nat} {x5 x6 x7 : Int32} {r : ZR} (hend : zL (zenv zbt d) tb_X8_serveAll cu_X8_serveAll 119 [some (.ref 66), some (.int (nI (zserved S))), some (.int (nI s)), some (.long (lN (acc ||| zwo t (zsu S p)))), none, some (.int x5), some (.int x6), some (.int x7), none, none, some (.long (lN t)), none, some (.int (if zheld S p && zhang S p then nI (zpay S p) else -1)), some (.int (nI (S 2))), none] [] M r) :
    zL (zenv zbt d) tb_X8_serveAll cu_X8_serveAll 119 [some (.ref 66), some (.int (nI (zserved S))), some (.int (nI s)), some (.long (lN acc)), none, some (.int x5), some (.int x6), some (.int x7), none, none, some (.long (lN t)), none, some (.int (if zheld S p && zhang S p then nI (zpay S p) else -1)), some (.int 0), none] [] M r := by
  have hm5 := hW.m
  have hpay := hW.pay p
  have hsv := zserved_lt hW
  have key : ∀ c, c ≤ S 2 → zL (zenv zbt d) tb_X8_serveAll cu_X8_serveAll 119 [some (.ref 66), some (.int (nI (zserved S))), some (.int (nI s)), some (.long (lN (acc ||| zors (fun c => if (zsu S p).testBit c then (t &&& zWc c) * 2 ^ (2 ^ c) else 0) c))), none, some (.int x5), some (.int x6), some (.int x7), none, none, some (.long (lN t)), none, some (.int (if zheld S p && zhang S p then nI (zpay S p) else -1)), some (.int (nI c)), none] [] M r := by
    apply zup
    · have e : zors (fun c => if (zsu S p).testBit c then (t &&& zWc c) * 2 ^ (2 ^ c) else 0) (S 2) = zwo t (zsu S p) := (zors_zero hm5 (fun i h1 h2 => by
        rw [if_neg (fun q => by have := (zsu_bit.mp q).1; omega)])).symm
      rw [e]
      exact hend
    · intro c hc ih
      obtain ⟨k1, k2⟩ := hW.2.2.2.2.2.1 c hc
      have h32 : 2 ^ c < 32 := Nat.lt_of_lt_of_le (Nat.pow_lt_pow_right (by decide) (show c < 5 by omega) : 2 ^ c < 2 ^ 5) (by decide)
      have no : (zsu S p).testBit c = false → zL (zenv zbt d) tb_X8_serveAll cu_X8_serveAll 119 [some (.ref 66), some (.int (nI (zserved S))), some (.int (nI s)), some (.long (lN (acc ||| zors (fun c => if (zsu S p).testBit c then (t &&& zWc c) * 2 ^ (2 ^ c) else 0) c) ||| 0)), none, some (.int x5), some (.int x6), some (.int x7), none, none, some (.long (lN t)), none, some (.int (if zheld S p && zhang S p then nI (zpay S p) else -1)), some (.int (nI c + 1)), none] [] M r := fun q => by
        rw [zlor0, nI_1]
        simpa only [zors, q, Bool.false_eq_true, if_false, Nat.or_zero] using ih
      have yes : (zsu S p).testBit c = true → zL (zenv zbt d) tb_X8_serveAll cu_X8_serveAll 119 [some (.ref 66), some (.int (nI (zserved S))), some (.int (nI s)), some (.long (lN (acc ||| zors (fun c => if (zsu S p).testBit c then (t &&& zWc c) * 2 ^ (2 ^ c) else 0) c) ||| (zlshl (lN t &&& (M.2 80 (nI c).toNatClampNeg)) (zshl 1 (nI c))))), none, some (.int x5), some (.int x6), some (.int x7), none, none, some (.long (lN t)), none, some (.int (if zheld S p && zhang S p then nI (zpay S p) else -1)), some (.int (nI c + 1)), none] [] M r := fun q => by
        rw [zcN (by omega), hC c (by omega), zland, show zshl 1 (nI c) = nI (2 ^ c) from zshl1 (by omega), zlshlN _ (by omega), zlor, Nat.or_assoc, nI_1]
        simpa only [zors, q, if_true] using ih
      apply zL_of; rw [e_X8_serveAll_119, hM.1 2 (by decide), if_neg (nI_ge hc (by omega)), s_has hd (by omega) (by omega), Option.bind_some]
      dsimp only
      by_cases h0 : S (26 + c) = 0
      · rw [zbi_f (fun q => (zserved_bit hc).mp q h0), if_pos rfl]
        rw [show (13 : Int32) + nI c = nI (13 + c) from nI_add 13 c, show (18 : Int32) + nI c = nI (18 + c) from nI_add 18 c, zck_t (zinN (by omega) (by decide)), zck_t (zinN (by omega) (by decide)), hM.at (by omega), hM.at (by omega), s_in hd, Option.bind_some]
        dsimp only
        have hiff : (nI (S (13 + c)) ≤ (if zheld S p && zhang S p then nI (zpay S p) else -1) ∧ (if zheld S p && zhang S p then nI (zpay S p) else -1) ≤ nI (S (18 + c))) ↔ (zsu S p).testBit c = true := by
          rw [zsu_bit]
          cases hh : (zheld S p && zhang S p)
          · rw [if_neg (by decide)]
            constructor
            · rintro ⟨h1, -⟩
              have h3 : (nI (S (13 + c))).toInt ≤ (-1 : Int32).toInt := Int32.le_iff_toInt_le.mp h1
              rw [nI_toInt (by omega), show (-1 : Int32).toInt = -1 by decide] at h3
              omega
            · rintro ⟨-, -, h1, h2⟩
              unfold zfit at h2
              rw [Bool.and_eq_true] at h2
              rw [h1, h2.1] at hh
              cases hh
          · rw [if_pos rfl, nI_leI (by omega) (by omega), nI_leI (by omega) (by omega)]
            rw [Bool.and_eq_true] at hh
            unfold zfit
            rw [hh.1, hh.2]
            simp [hc, h0]
        cases hq : (zsu S p).testBit c
        · rw [zbi_f (fun q => by rw [hiff, hq] at q; cases q), if_pos rfl, if_pos rfl]
          exact zPo_go (no hq)
        · rw [zbi_t (hiff.mpr hq), if_neg zn10, if_neg zn10, zck_t (zinN (by omega) (by decide))]
          exact zPo_go (yes hq)
      · have hq : (zsu S p).testBit c = false := by
          cases q : (zsu S p).testBit c
          · rfl
          · exact absurd (zsu_bit.mp q).2.1 h0
        rw [zbi_t ((zserved_bit hc).mpr h0), if_neg zn10, if_pos rfl]
        exact zPo_go (no hq)
  have := key 0 (by omega)
  rw [zors, Nat.or_zero] at this
  exact this
theorem l_serveM (hd : 2 ≤ d) (hW : zwf S) (hM : zMod S M) (hC : ∀ c, c < 5 → M.2 80 c = lN (zWc c)) {s : Nat} (hs : s < 2 ^ S 0) (h0 : s ≠ 0) (hh : zheld S s = true) (hB : zBd2 S M s) {r : ZR} {T : Nat} (hend : zL (zenv zbt d) tb_X8_serveAll cu_X8_serveAll 11 [some (.ref 66), some (.int (nI (zserved S))), some (.int (nI (s + 1))), none, none, none, none, none, none, none, none, none, none, none, none] [] (zwl M 78 s ((M.2 78 s &&& (-4294967296)) ||| lN T)) r) :
    ∀ n m acc, m < n → m &&& zdif s (2 ^ zlow s) = m → acc ||| zst (zcf S s) (zdif s (2 ^ zlow s)) n m = T → zL (zenv zbt d) tb_X8_serveAll cu_X8_serveAll 79 [some (.ref 66), some (.int (nI (zserved S))), some (.int (nI s)), some (.long (lN acc)), none, some (.int (nI (2 ^ zlow s))), some (.int (nI (zdif s (2 ^ zlow s)))), some (.int (nI m)), some (.int 1), none, none, none, none, none, none] [] M r := by
  have hp10 := zpow10 hW.n
  have hm5 := hW.m
  have hs10 : s < 1024 := by omega
  obtain ⟨l1, l2, l3⟩ := zlow_lt s hs10 h0
  intro n
  induction n with
  | zero => intro m acc hm; omega
  | succ n ih =>
    intro m acc hm hmr hT
    have hm10 : m < 1024 := by
      have := zpart_le hmr
      have := zdif_le s (2 ^ zlow s)
      omega
    have hqs : (2 ^ zlow s ||| m) &&& s = 2 ^ zlow s ||| m := zpart.mpr (fun i hi => by
      rw [Nat.testBit_or, Bool.or_eq_true] at hi
      rcases hi with hi | hi
      · rw [z2b] at hi
        subst hi
        exact l2
      · have := zpart.mp hmr i hi
        rw [zdif_bit, Bool.and_eq_true] at this
        exact this.1)
    have hql : (2 ^ zlow s ||| m).testBit (zlow s) = true := by rw [Nat.testBit_or, z2b.mpr rfl, Bool.true_or]
    have hqle := zpart_le hqs
    have hdlt := zdif_lt3 l2 hql
    have hdh : zheld S (zdif s (2 ^ zlow s ||| m)) = true := zheld_part hh (zdif_part _ _)
    apply zL_of; rw [e_X8_serveAll_79, if_neg zn10, zor, Nat.or_comm m, zandn (by omega), zck_t (zinN (by omega) (by decide)), zcN (by omega), hB.lo hW hdlt hdh, s_paysBy hd hW hM (hB.sv hW) (by omega), Option.bind_some]
    dsimp only
    apply zPo_go
    apply l_serveC (by omega) hW hM hC
    rw [zst, ← Nat.or_assoc] at hT
    change (acc ||| zwo (zcn S (zdif s (2 ^ zlow s ||| m))) (zsu S (2 ^ zlow s ||| m))) ||| _ = T at hT
    by_cases hm0 : m = 0
    · subst hm0
      rw [if_pos rfl, Nat.or_zero] at hT
      apply zL_of; rw [e_X8_serveAll_119, hM.1 2 (by decide), if_pos (nI_le (Nat.le_refl _) (by omega)), if_pos (by decide)]
      apply zPo_go
      rw [hT]
      apply zL_of; rw [e_X8_serveAll_79, if_pos rfl, zck_t (zinN (by omega) (by decide)), zck_t (zinN (by omega) (by decide)), zcN (by omega), nI_1]
      exact zPo_go hend
    · rw [if_neg hm0] at hT
      have hk := zm1 (r := zdif s (2 ^ zlow s)) hm0
      apply zL_of; rw [e_X8_serveAll_119, hM.1 2 (by decide), if_pos (nI_le (Nat.le_refl _) (by omega)), if_neg (nI_nle (by omega) (by omega)), show nI m - 1 = nI (m - 1) from pk_sub (b := 1) (by omega), zand]
      apply zPo_go
      exact ih _ _ (by omega) (zsub_and _ _) hT
theorem s_serveAll (hd : 5 ≤ d) (hW : zwf S) (hM : zMod S M) (hC : ∀ c, c < 5 → M.2 80 c = lN (zWc c)) : ∃ M', (zenv zbt d).2.2 204 [.ref 66] M = some M' ∧ zFr [78] M M' ∧ zBd2 S M' (2 ^ S 0) := by
  obtain ⟨d, rfl⟩ : ∃ e, d = e + 1 := ⟨d - 1, by omega⟩
  have hp10 := zpow10 hW.n
  obtain ⟨M1, e1, f1, p1⟩ := s_surveys (d := d) (by omega) hW hM
  have key : ∀ s, s ≤ 2 ^ S 0 → ∀ Mk, zFr [78] M Mk → zBd2 S Mk s → ∃ M', zL (zenv zbt d) tb_X8_serveAll cu_X8_serveAll 11 [some (.ref 66), some (.int (nI (zserved S))), some (.int (nI s)), none, none, none, none, none, none, none, none, none, none, none, none] [] Mk (none, M') ∧ zFr [78] M M' ∧ zBd2 S M' (2 ^ S 0) := by
    apply zup
    · intro Mk hf hB
      have hMk := hM.fr hf (by decide) (by decide)
      refine ⟨Mk, ?_, hf, hB⟩
      apply zL_of; rw [e_X8_serveAll_11, zsh1 hW hMk, if_pos (nI_le (Nat.le_refl _) (by omega))]; rfl
    · intro s hs ih Mk hf hB
      have hMk := hM.fr hf (by decide) (by decide)
      have hCk : ∀ c, c < 5 → Mk.2 80 c = lN (zWc c) := by rw [(hf 80 (by decide)).2]; exact hC
      have hand : s &&& zgone S < 2 ^ 10 := Nat.lt_of_le_of_lt Nat.and_le_left (by omega)
      obtain ⟨M', h1, h2, h3⟩ := ih _ (hf.wl (by decide)) (hB.put hW hs rfl)
      refine ⟨M', ?_, h2, h3⟩
      apply zL_of; rw [e_X8_serveAll_11, zsh1 hW hMk, if_neg (nI_ge hs (by omega)), s_gone (by omega) hMk, Option.bind_some]
      dsimp only
      rw [zand]
      by_cases hh : s &&& zgone S = 0
      · have hheld := (zheld_gone hs).mp hh
        rw [hh, if_pos (show nI 0 = (0 : Int32) from rfl)]
        rw [hheld, if_pos rfl] at h1
        by_cases h0 : s = 0
        · subst h0
          rw [if_pos (by decide), zck_t (zinN (by omega) (by decide)), zck_t (zinN (by omega) (by decide)), zcN (by omega), nI_1]
          exact zPo_go h1
        · obtain ⟨l1, l2, l3⟩ := zlow_lt s (by omega) h0
          have hlt := zdif_lt2 l2
          rw [if_neg (nI_nle (by omega) (by omega)), s_lowest (by omega) (by omega) h0, Option.bind_some]
          dsimp only
          rw [show zshl 1 (nI (zlow s)) = nI (2 ^ zlow s) from zshl1 (by omega), zandn (by omega), zck_t (zinN (by omega) (by decide)), zcN (by omega), hB.lo hW hlt (zheld_part hheld (zdif_part _ _)), zl1', zlor, zcn_1 (by omega)]
          apply zPo_go
          exact l_serveM (by omega) hW hMk hCk hs h0 hheld hB h1 1024 _ _ (by omega) (Nat.and_self _) (zcn_eq (by omega) h0).symm
      · rw [if_neg (nI_ne0 (by omega) (by omega)), zck_t (zinN (by omega) (by decide)), zck_t (zinN (by omega) (by decide)), zcN (by omega), nI_1]
        have hheld : zheld S s = false := by
          cases q : zheld S s
          · rfl
          · exact absurd ((zheld_gone hs).mpr q) hh
        rw [hheld, if_neg (by decide)] at h1
        exact zPo_go h1
  obtain ⟨M', h1, h2, h3⟩ := key 0 (Nat.zero_le _) M1 f1 (fun t ht => by rw [p1 t ht, if_neg (show ¬ t < 0 by omega), Nat.add_zero (zhi S t * 2 ^ 32), zhi])
  refine ⟨M', ?_, h2, h3⟩
  apply c_X8_serveAll
  apply zL_of; rw [e_X8_serveAll_0, e1, Option.bind_some, s_servedNow (by omega) hW (hM.fr f1 (by decide) (by decide)), Option.bind_some]
  exact zPo_go h1
theorem s_can (hd : 1 ≤ d) {n w : Nat} (hn : n < 2 ^ 63) (hw : w < 32) : (zenv zbt d).1 205 [.long (lN n), .int (nI w)] M = some (zbi (n.testBit w = true), M) := by
  obtain ⟨d, rfl⟩ : ∃ e, d = e + 1 := ⟨d - 1, by omega⟩
  apply c_X8_can
  apply zL_of; rw [e_X8_can_0]
  cases q : n.testBit w
  · rw [if_neg (fun q2 => by rw [zlbit hn (by omega), q] at q2; cases q2), zbi_f (by decide)]; rfl
  · rw [if_pos ((zlbit hn (by omega)).mpr q), zbi_t rfl]; rfl
theorem s_canB (hd : 1 ≤ d) (hW : zwf S) (hB : zBd2 S M (2 ^ S 0)) {s w : Nat} (hh : zheld S s = true) (hw : w < 32) : (zenv zbt d).1 205 [.long (M.2 78 s), .int (nI w)] M = some (zbi ((zcn S s).testBit w = true), M) := by
  have hp10 := zpow10 hW.n
  have hs := zheld_lt hh
  have h1 := zcn_lt (S := S) s (by omega)
  have h2 := zhi_lt hW s
  have := s_can (d := d) (M := M) (n := zhi S s * 2 ^ 32 + zcn S s) hd (by omega) hw
  rw [zltb h1 hw] at this
  rw [hB.at hW hs hh]
  exact this
/-- the reference finds the first piece -/
theorem l_firstM (hd : 3 ≤ d) (hW : zwf S) (hM : zMod S M) (hB : zBd2 S M (2 ^ S 0)) {l c o k : Nat} (hl : zheld S l = true) (hc : c < 5) (ho : o < 32) (h1 : zpl S l c o k = true) (h2 : ∀ j, j < k → zpl S l c o j = false) (x1 x3 : Int32) {r : ZR} (hend : zL (zenv zbt d) tb_X8_serving cu_X8_serving 122 [some (.ref 66), some (.int x1), none, some (.int x3), some (.int (nI (zdif l k))), some (.int (nI o)), some (.int (nI k)), some (.int (nI (c + 1))), none] [] M r) : zL (zenv zbt d) tb_X8_serving cu_X8_serving 154 [some (.ref 66), some (.int x1), none, some (.int x3), some (.int (nI l)), some (.int (nI o)), none, some (.int (nI c)), some (.int 1)] [] M r := by
  have hp10 := zpow10 hW.n
  have hl2 := zheld_lt hl
  have hk0 : k ≠ 0 := fun e => by rw [e, zpl_0] at h1; cases h1
  have hk1 := h1
  unfold zpl at hk1
  rw [Bool.and_eq_true, decide_eq_true_eq, Bool.and_eq_true] at hk1
  have hkle := zpart_le hk1.1
  obtain ⟨c2, c3, -, -⟩ := zsu_bit.mp hk1.2.1
  have pass : ∀ s, s ≤ k → 1 ≤ s → (zpl S l c o s = true → s = k) → (zpl S l c o s = false → zL (zenv zbt d) tb_X8_serving cu_X8_serving 154 [some (.ref 66), some (.int x1), none, some (.int x3), some (.int (nI l)), some (.int (nI o)), none, some (.int (nI c)), some (.int (nI (s + 1)))] [] M r) → zL (zenv zbt d) tb_X8_serving cu_X8_serving 154 [some (.ref 66), some (.int x1), none, some (.int x3), some (.int (nI l)), some (.int (nI o)), none, some (.int (nI c)), some (.int (nI s))] [] M r := by
    intro s hs h1s hy hn
    apply zL_of; rw [e_X8_serving_154, zandn (by omega), nI_1, nI_1]
    by_cases hp : s &&& l = s
    · have e0 : zdif s l = 0 := zdif_0.mpr (zpart.mp hp)
      rw [e0, if_pos (show nI 0 = (0 : Int32) from rfl), s_fitsFor (by omega) hW hM (hB.sv hW) (by omega) c2, Option.bind_some]
      dsimp only
      by_cases hf : zhang S s = true ∧ zfit S c s = true
      · have hb : (zsu S s).testBit c = true := zsu_bit.mpr ⟨c2, c3, hf.1, hf.2⟩
        have hdh : zheld S (zdif l s) = true := zheld_part hl (zdif_part _ _)
        have hdl := zdif_le l s
        rw [zbi_t hf, if_neg zn10, zandn (by omega), zck_t (zinN (by omega) (by decide)), zcN (by omega), s_canB (by omega) hW hB hdh ho, Option.bind_some]
        dsimp only
        cases hq : (zcn S (zdif l s)).testBit o
        · rw [zbi_f (by decide), if_pos rfl]
          exact zPo_go (hn (by unfold zpl; rw [hq]; simp))
        · rw [zbi_t rfl, if_neg zn10]
          have := hy (by unfold zpl; rw [decide_eq_true hp, hb, hq]; rfl)
          subst this
          exact zPo_go hend
      · have hb : (zsu S s).testBit c = false := by
          cases q : (zsu S s).testBit c
          · rfl
          · exact absurd (zsu_bit.mp q).2.2 hf
        rw [zbi_f hf, if_pos rfl]
        exact zPo_go (hn (by unfold zpl; rw [hb]; simp))
    · have e0 : zdif s l ≠ 0 := fun q => hp (zpart.mpr (zdif_0.mp q))
      have e1 := zdif_le s l
      rw [if_neg (nI_ne0 (by omega) (by omega))]
      exact zPo_go (hn (by unfold zpl; rw [decide_eq_false hp]; rfl))
  have key : ∀ s, s ≤ k → 1 ≤ s → zL (zenv zbt d) tb_X8_serving cu_X8_serving 154 [some (.ref 66), some (.int x1), none, some (.int x3), some (.int (nI l)), some (.int (nI o)), none, some (.int (nI c)), some (.int (nI s))] [] M r := by
    apply zup
    · intro h
      exact pass k (Nat.le_refl _) h (fun _ => rfl) (fun q => by rw [h1] at q; cases q)
    · intro s hs ih h
      exact pass s (by omega) h (fun q => by rw [h2 s hs] at q; cases q) (fun _ => ih (by omega))
  exact key 1 (by omega) (by omega)
def zpf (S : Nat → Nat) (w : Nat) : Nat → Nat
  | 0 => 0
  | i + 1 => zpan S w i
theorem l_servM (hd : 3 ≤ d) (hW : zwf S) (hM : zMod S M) (hB : zBd2 S M (2 ^ S 0)) {w k : Nat} (hw : w < 32) (hbw : (zcn S (zon S)).testBit w = true) (hk : k < 5) : ∀ i, i ≤ k + 1 → zL (zenv zbt d) tb_X8_serving cu_X8_serving 122 [some (.ref 66), some (.int (nI k)), none, some (.int (nI w)), some (.int (nI (zpas S w i).1)), some (.int (nI (zpas S w i).2)), some (.int (nI (zpf S w i))), some (.int (nI i)), none] [] M (some (.int (nI (zpan S w k))), M) := by
  have hp10 := zpow10 hW.n
  apply zup
  · apply zL_of; rw [e_X8_serving_122, if_pos (nI_lt (by omega) (by omega))]; rfl
  · intro i hi ih
    obtain ⟨i1, i2, i3, i4, i5⟩ := zpas_ok hW hw hbw i
    have hl := zheld_lt i1
    apply zL_of; rw [e_X8_serving_122, if_neg (nI_nlt (by omega) (by omega)), s_has (by omega) (by omega) (by omega), Option.bind_some]
    dsimp only
    cases q : w.testBit i
    · rw [zbi_f (by decide), if_pos rfl, nI_1]
      have e : zpf S w (i + 1) = 0 := by
        show zpan S w i = 0
        unfold zpan
        rw [q, if_neg (by decide)]
      rw [e, zpas, q, if_neg (by decide)] at ih
      exact zPo_go ih
    · obtain ⟨z1, z2⟩ := zls_ok (by omega) (i5 q)
      have e : zpf S w (i + 1) = zls S (zpas S w i).1 i (zdif (zpas S w i).2 (2 ^ i)) := by
        show zpan S w i = _
        unfold zpan
        rw [q, if_pos rfl]
      rw [zbi_t rfl, if_neg zn10, show zshl 1 (nI i) = nI (2 ^ i) from zshl1 (by omega), zandn (by omega)]
      rw [e, zpas, q, if_pos rfl] at ih
      apply zPo_go
      exact l_firstM hd hW hM hB i1 (by omega) (Nat.lt_of_le_of_lt (zdif_le _ _) i2) z1 z2 _ _ ih
theorem zMisc.wc (h : zMisc M) : ∀ c, c < 5 → M.2 80 c = lN (zWc c) := by
  intro c hc
  obtain ⟨h0, h1, h2, h3, h4⟩ := h.2.2.2
  have : c = 0 ∨ c = 1 ∨ c = 2 ∨ c = 3 ∨ c = 4 := by omega
  rcases this with rfl | rfl | rfl | rfl | rfl
  · exact h0
  · exact h1
  · exact h2
  · exact h3
  · exact h4
theorem zgm3 {x : Int32} {n : Nat} (hn : n < 2 ^ 30) (h1 : ¬ x < -2) (h2 : x < nI n) : (-2 : Int32) ≤ x ∧ x ≤ nI n - 1 := by
  refine ⟨Int32.not_lt.mp h1, ?_⟩
  rw [Int32.le_iff_toInt_le, show (nI n - 1).toInt = (n : Int) - 1 from pk_sub_toInt (b := 1) hn (by decide)]
  have := Int32.lt_iff_toInt_lt.mp h2
  rw [nI_toInt (by omega)] at this
  omega
theorem zgm4 {x : Int32} {n : Nat} (hn : n < 2 ^ 30) (h : (-2 : Int32) ≤ x ∧ x ≤ nI n - 1) : ¬ x < -2 ∧ x < nI n := by
  refine ⟨Int32.not_lt.mpr h.1, ?_⟩
  have h2 := h.2
  rw [Int32.le_iff_toInt_le, show (nI n - 1).toInt = (n : Int) - 1 from pk_sub_toInt (b := 1) hn (by decide)] at h2
  rw [Int32.lt_iff_toInt_lt, nI_toInt (by omega)]
  omega
theorem zm12 {x : Int32} (h1 : ¬ x < -2) (h2 : x ≠ -1) (h3 : x ≠ -2) : ¬ x < 0 := by
  intro h
  have a := Int32.lt_iff_toInt_lt.mp h
  have b : ¬ x.toInt < (-2 : Int32).toInt := fun q => h1 (Int32.lt_iff_toInt_lt.mpr q)
  have c : x.toInt ≠ (-1 : Int32).toInt := fun q => h2 (Int32.toInt_inj.mp q)
  have e : x.toInt ≠ (-2 : Int32).toInt := fun q => h3 (Int32.toInt_inj.mp q)
  rw [show (0 : Int32).toInt = 0 by decide] at a
  rw [show (-2 : Int32).toInt = -2 by decide] at b e
  rw [show (-1 : Int32).toInt = -1 by decide] at c
  omega
theorem a_serving (hI : zInv S M) (x : Int32) : zAl 103 206 [.int x] M := by
  have hn := hI.wf.n
  have hm := hI.wf.m
  have hp10 := zpow10 hn
  by_cases h0 : S 0 = 0
  · refine zAl.of hI (r := -1000002) (fun d hd => ⟨M, ?_, zFr.rf⟩) (fun d M hd hI => ⟨M, ?_, zFr.rf⟩)
    · obtain ⟨d, rfl⟩ : ∃ e, d = e + 1 := ⟨d - 1, by omega⟩
      apply c_X7_serving
      apply zL_of; rw [e_X7_serving_0, s_isThereC (by omega) hI, Option.bind_some]
      dsimp only
      rw [zbi_f (fun q => q h0), if_pos rfl]; rfl
    · obtain ⟨d, rfl⟩ : ∃ e, d = e + 1 := ⟨d - 1, by omega⟩
      apply c_X8_serving
      apply zL_of; rw [e_X8_serving_0, hI.md.1 0 (by decide), h0, if_pos zn0]; rfl
  by_cases hx : ¬ x < -2 ∧ x < nI (S 2)
  · obtain ⟨w1, w2⟩ := zmG_ok hI.wf 32 (by omega)
    change zmost S < 32 at w1
    change (zcn S (zon S)).testBit (zmost S) = true at w2
    refine zAl.of hI (r := if x = -1 then nI (zpop (zmost S)) else if x = -2 then nI (zmost S) else nI (zpan S (zmost S) x.toNatClampNeg)) (fun d hd => ?_) (fun d M hd hI => ?_)
    · obtain ⟨d, rfl⟩ : ∃ e, d = e + 1 := ⟨d - 1, by omega⟩
      obtain ⟨M1, e1, f1, p1⟩ := s_weigh (d := d) (by omega) (Or.inl rfl) hI.wf hI.sh hI.fi
      have hI1 := hI.fr (f1.mono (by decide))
      obtain ⟨M2, e2, f2, p2⟩ := s_mostServed (d := d) (by omega) (Or.inl rfl) hI.wf hI1.sh hI1.fi p1
      have f12 : zFr zScr M M2 := (f1.mono (by decide)).trans (f2.mono (by decide))
      have hI2 := hI.fr f12
      refine ⟨M2, ?_, f12⟩
      apply c_X7_serving
      apply zL_of; rw [e_X7_serving_0, s_isThereC (by omega) hI, Option.bind_some]
      dsimp only
      rw [zbi_t h0, if_neg zn10, if_neg hx.1, hI.sh.2.2.1, if_pos hx.2, e1, Option.bind_some, e2, Option.bind_some]
      dsimp only
      by_cases h1 : x = -1
      · rw [if_pos h1, if_pos h1, s_bitCount (by omega) (by omega), Option.bind_some]; rfl
      · rw [if_neg h1, if_neg h1]
        by_cases h2 : x = -2
        · rw [if_pos h2, if_pos h2]; rfl
        · obtain ⟨k, hk, rfl⟩ := nI_of (zm12 hx.1 h1 h2)
          have hk2 := (nI_ltI hk (by omega)).mp hx.2
          rw [if_neg h2, if_neg h2, zcN hk, s_pieceAmong (by omega) (Or.inl rfl) hI.wf hI2.sh p2 w1 w2 (by omega), Option.bind_some]; rfl
    · obtain ⟨d, rfl⟩ : ∃ e, d = e + 1 := ⟨d - 1, by omega⟩
      obtain ⟨M1, e1, f1, p1⟩ := s_serveAll (d := d) (by omega) hI.wf hI.md hI.mi.wc
      have hI1 := hI.fr (f1.mono (by decide))
      have hon := hI.wf.on
      have hoh : zheld S (zon S) = true := zheld_iff.mpr (fun i hi => hi)
      refine ⟨M1, ?_, f1.mono (by decide)⟩
      have key : ∀ k, k ≤ 32 → 1 ≤ k → zL (zenv zbt d) tb_X8_serving cu_X8_serving 46 [some (.ref 66), some (.int x), some (.int (nI (zon S))), some (.int (nI ((List.range k).foldl (zmG S) 0))), some (.int (nI k)), none, none, none, none] [] M1 (some (.int (if x = -1 then nI (zpop (zmost S)) else if x = -2 then nI (zmost S) else nI (zpan S (zmost S) x.toNatClampNeg))), M1) := by
        apply zup
        · intro _
          change zL _ _ _ 46 [some (.ref 66), some (.int x), some (.int (nI (zon S))), some (.int (nI (zmost S))), some (.int (nI 32)), none, none, none, none] [] M1 _
          apply zL_of; rw [e_X8_serving_46, if_pos (by decide)]
          by_cases h1 : x = -1
          · rw [if_neg (by rw [h1]; decide), if_pos h1, if_pos h1, s_ones (by omega) (by omega), Option.bind_some]; rfl
          · by_cases h2 : x = -2
            · rw [if_neg (by rw [h2]; decide), if_neg h1, if_neg h1, if_pos h2]; rfl
            · obtain ⟨k, hk, rfl⟩ := nI_of (zm12 hx.1 h1 h2)
              have hk2 := (nI_ltI hk (by omega)).mp hx.2
              rw [if_pos (nI_pos' hk), if_neg h1, if_neg h2, zcN hk]
              apply zPo_go
              exact l_servM (by omega) hI.wf hI1.md p1 w1 w2 (by omega) 0 (by omega)
        · intro k hk ih h1
          have ha := (zmG_ok hI.wf k (by omega)).1
          have ih := ih (by omega)
          rw [zrange_succ] at ih
          generalize (List.range k).foldl (zmG S) 0 = a at ih ha ⊢
          have q1 := zpop_le a
          have q2 := zpop_le k
          apply zL_of; rw [e_X8_serving_46, if_neg (show ¬ ((32 : Int32) ≤ nI k) from nI_ge hk (by decide)), zck_t (zinN hon (by decide)), zcN (by omega), s_canB (by omega) hI.wf p1 hoh hk, Option.bind_some]
          dsimp only
          cases hq : (zcn S (zon S)).testBit k
          · rw [zbi_f (by decide), if_pos rfl, nI_1]
            have : zmG S a k = a := by unfold zmG; rw [if_neg (fun q => by rw [hq] at q; cases q.1)]
            rw [this] at ih
            exact zPo_go ih
          · rw [zbi_t rfl, if_neg zn10, s_ones (by omega) (by omega), Option.bind_some]
            dsimp only
            rw [s_ones (by omega) (by omega), Option.bind_some]
            dsimp only
            by_cases hp : zpop a < zpop k
            · rw [if_neg (nI_ge hp (by omega)), nI_1]
              have : zmG S a k = k := by unfold zmG; rw [if_pos ⟨hq, hp⟩]
              rw [this] at ih
              exact zPo_go ih
            · rw [if_pos (nI_le (by omega) (by omega)), nI_1]
              have : zmG S a k = a := by unfold zmG; rw [if_neg (fun q => hp q.2)]
              rw [this] at ih
              exact zPo_go ih
      apply c_X8_serving
      apply zL_of; rw [e_X8_serving_0, hI.md.1 0 (by decide), if_neg (nI_ne0 (by omega) (by omega)), hI.md.1 2 (by decide), s_in (by omega), Option.bind_some]
      dsimp only
      rw [zbi_t (zgm3 (by omega) hx.1 hx.2), if_neg zn10, e1, Option.bind_some, s_on (by omega) hI.wf hI1.md, Option.bind_some]
      apply zPo_go
      have := key 1 (by omega) (by omega)
      have e0 : (List.range 1).foldl (zmG S) 0 = 0 := by
        show zmG S 0 0 = 0
        unfold zmG
        split <;> rfl
      rw [e0] at this
      exact this
  · refine zAl.of hI (r := -1000001) (fun d hd => ⟨M, ?_, zFr.rf⟩) (fun d M hd hI => ⟨M, ?_, zFr.rf⟩)
    · obtain ⟨d, rfl⟩ : ∃ e, d = e + 1 := ⟨d - 1, by omega⟩
      apply c_X7_serving
      apply zL_of; rw [e_X7_serving_0, s_isThereC (by omega) hI, Option.bind_some]
      dsimp only
      rw [zbi_t h0, if_neg zn10, hI.sh.2.2.1]
      by_cases h1 : x < -2
      · rw [if_pos h1]; rfl
      · rw [if_neg h1, if_neg (fun q => hx ⟨h1, q⟩)]; rfl
    · obtain ⟨d, rfl⟩ : ∃ e, d = e + 1 := ⟨d - 1, by omega⟩
      apply c_X8_serving
      apply zL_of; rw [e_X8_serving_0, hI.md.1 0 (by decide), if_neg (nI_ne0 (by omega) (by omega)), hI.md.1 2 (by decide), s_in (by omega), Option.bind_some]
      dsimp only
      rw [zbi_f (fun q => hx (zgm4 (by omega) q)), if_pos rfl]; rfl
end ZX44

/-! Days by draws -/
def zlos (S : Nat → Nat) (c : Nat) : Nat → Nat := fun k => if k = 25 then S 25 ||| 2 ^ c else S k
def ztkn (S : Nat → Nat) (w : Nat) : Nat → Nat := fun k => if k = 26 + w then 0 else S k
def zsld (S : Nat → Nat) (w p : Nat) : Nat → Nat := fun k => if k = 26 + w then p else if k = 24 then S 24 + ztear S (zon S) p else S k
def zday (S : Nat → Nat) (x : Nat) : Nat → Nat := if S 2 = 0 ∨ x % 3 = 0 then (if (zon S).testBit (x % S 0) then zlos S (x % S 0) else S) else if S (26 + x % S 2) ≠ 0 then ztkn S (x % S 2) else if zbst S (x % S 2) = 0 then S else zsld S (x % S 2) (zbst S (x % S 2))
section ZX52
variable {d : Nat} {M : ZM} {S T : Nat → Nat} {b : Nat}
theorem zlos_n {c k : Nat} (h : k ≠ 25) : zlos S c k = S k := by unfold zlos; rw [if_neg h]
theorem ztkn_n {w k : Nat} (h : k ≠ 26 + w) : ztkn S w k = S k := by unfold ztkn; rw [if_neg h]
theorem ztkn_e {w : Nat} : ztkn S w (26 + w) = 0 := by unfold ztkn; rw [if_pos rfl]
theorem zsld_n {w p k : Nat} (h : k ≠ 26 + w) (h2 : k ≠ 24) : zsld S w p k = S k := by unfold zsld; rw [if_neg h, if_neg h2]
theorem zsld_e {w p : Nat} : zsld S w p (26 + w) = p := by unfold zsld; rw [if_pos rfl]
theorem zsld_t {w p : Nat} : zsld S w p 24 = S 24 + ztear S (zon S) p := by unfold zsld; rw [if_neg (by omega), if_pos rfl]
theorem zwf.los (hW : zwf S) {c : Nat} (ht : (zon S).testBit c = true) : zwf (zlos S c) := by
  obtain ⟨hc, o2, o3⟩ := zon_iff.mp ht
  have tn : ∀ k, k ≠ 25 → zlos S c k = S k := fun k hk => zlos_n hk
  have te : zlos S c 25 = S 25 ||| 2 ^ c := rfl
  exact hW.mk' (fun k hk => tn k (by omega)) (fun e he => by
      rw [tn _ (by omega)]; exact (hW.2.2.2.1 e he).2.2) (by rw [tn _ (by omega)]; exact hW.2.2.2.2.1) (by rw [te]; exact Nat.or_lt_two_pow hW.2.2.2.2.2.2.1 (Nat.pow_lt_pow_right (by decide) hc)) (fun e he => by rw [tn _ (by omega)]; exact hW.2.2.2.2.2.2.2.1 e he) (fun e e' he he' => by rw [tn _ (by omega), tn _ (by omega)]; exact hW.2.2.2.2.2.2.2.2.1 e e' he he') (fun e he => by
        rw [tn _ (by omega), te]
        apply Nat.eq_of_testBit_eq
        intro i
        have h1 := congrArg (fun z => z.testBit i) (hW.2.2.2.2.2.2.2.2.2 e he)
        simp only [Nat.testBit_and, Nat.zero_testBit] at h1
        rw [Nat.testBit_and, Nat.testBit_or, Nat.zero_testBit]
        cases hb : (S (26 + e)).testBit i
        · rfl
        · rw [hb, Bool.true_and] at h1
          rw [h1, Nat.testBit_two_pow]
          have : ¬ c = i := fun q => by rw [← q, o3 e he] at hb; cases hb
          simp [this])
theorem zSheet.los (hW : zwf S) (hS : zSheet S b M) (c : Nat) : zSheet (zlos S c) b (zw (zw M b 5 (nI (zdif (zon S) (2 ^ c)))) b 6 (nI (S 25 ||| 2 ^ c))) := by
  have tn : ∀ k, k ≠ 25 → zlos S c k = S k := fun k hk => zlos_n hk
  obtain ⟨s0, s1, s2, s3, s4, s5, s6, s7, s8, s9⟩ := id hS
  refine hS.mk' hW.n (fun k hk => tn k (by omega)) ?_ ?_ ?_ ?_ ?_ ?_ ?_ ?_ ?_ ?_ ?_ ?_ (fun i hi => ?_) (fun i hi h5 => ?_) hW.m
  · rw [zw_nk (by decide), zw_nk (by decide)]
  · rw [zw_nk (by decide), zw_nk (by decide)]
  · rw [zw_nk (by decide), zw_nk (by decide)]
  · rw [zw_nk (by decide), zw_nk (by decide)]
  · rw [zw_nk (by decide), zw_nk (by decide), tn _ (by omega)]; exact s3
  · rw [zw_nk (by decide), zw_nk (by decide), tn _ (by omega)]; exact s4
  · rw [zw_nk (by decide), zw_eq, zon_lose rfl tn]
  · rw [zw_eq]; rfl
  · rw [zw_nc (by omega), zw_nc (by omega)]
  · rw [zw_nc (by omega), zw_nc (by omega)]
  · rw [zw_nc (by omega), zw_nc (by omega)]
  · rw [zw_nc (by omega), zw_nc (by omega)]
  · rw [zw_nc (by omega), zw_nc (by omega), tn _ (by omega)]; exact (s8 i hi).2.2
  · rw [zw_nc (by omega), zw_nc (by omega), tn _ (by omega)]; exact (s9 i hi).2.2
theorem zSheet.tkn (hW : zwf S) (hS : zSheet S b M) {w : Nat} (hw : w < S 2) : zSheet (ztkn S w) b (zw (zw M b 5 (nI (zon S ||| S (26 + w)))) (b + 6) w 0) := by
  have hm := hW.m
  have tn : ∀ k, k ≠ 26 + w → ztkn S w k = S k := fun k hk => ztkn_n hk
  obtain ⟨s0, s1, s2, s3, s4, s5, s6, s7, s8, s9⟩ := id hS
  refine hS.mk' hW.n (fun k hk => tn k (by omega)) ?_ ?_ ?_ ?_ ?_ ?_ ?_ ?_ ?_ ?_ ?_ ?_ (fun i hi => ?_) (fun i hi h5 => ?_) hW.m
  · rw [zw_nc (by omega), zw_nk (by decide)]
  · rw [zw_nc (by omega), zw_nk (by decide)]
  · rw [zw_nc (by omega), zw_nk (by decide)]
  · rw [zw_nc (by omega), zw_nk (by decide)]
  · rw [zw_nc (by omega), zw_nk (by decide), tn _ (by omega)]; exact s3
  · rw [zw_nc (by omega), zw_nk (by decide), tn _ (by omega)]; exact s4
  · rw [zw_nc (by omega), zw_eq, zon_take hW (by omega) ztkn_e (fun k hk _ => tn k hk)]
  · rw [zw_nc (by omega), zw_nk (by decide), tn _ (by omega)]; exact s6
  · rw [zw_nc (by omega), zw_nc (by omega)]
  · rw [zw_nc (by omega), zw_nc (by omega)]
  · rw [zw_nc (by omega), zw_nc (by omega)]
  · rw [zw_nc (by omega), zw_nc (by omega)]
  · rw [zw_nc (by omega), zw_nc (by omega), tn _ (by omega)]; exact (s8 i hi).2.2
  · by_cases q : i = w
    · rw [q, zw_eq, ztkn_e]; rfl
    · rw [zw_nk q, zw_nc (by omega), tn _ (by omega)]; exact (s9 i hi).2.2
theorem zSheet.sld (hW : zwf S) (hS : zSheet S b M) {w p : Nat} (hw : w < S 2) (h0 : S (26 + w) = 0) : zSheet (zsld S w p) b (zw (zw (zw M (b + 6) w (nI p)) b 5 (nI (zdif (zon S) p))) b 4 (nI (S 24 + ztear S (zon S) p))) := by
  have hm := hW.m
  have tn : ∀ k, k ≠ 26 + w → k ≠ 24 → zsld S w p k = S k := fun k hk h2 => zsld_n hk h2
  obtain ⟨s0, s1, s2, s3, s4, s5, s6, s7, s8, s9⟩ := id hS
  refine hS.mk' hW.n (fun k hk => tn k (by omega) (by omega)) ?_ ?_ ?_ ?_ ?_ ?_ ?_ ?_ ?_ ?_ ?_ ?_ (fun i hi => ?_) (fun i hi h5 => ?_) hW.m
  · rw [zw_nk (by decide), zw_nk (by decide), zw_nc (by omega)]
  · rw [zw_nk (by decide), zw_nk (by decide), zw_nc (by omega)]
  · rw [zw_nk (by decide), zw_nk (by decide), zw_nc (by omega)]
  · rw [zw_nk (by decide), zw_nk (by decide), zw_nc (by omega)]
  · rw [zw_nk (by decide), zw_nk (by decide), zw_nc (by omega), tn _ (by omega) (by omega)]; exact s3
  · rw [zw_eq, zsld_t]
  · rw [zw_nk (by decide), zw_eq, zon_sell (by omega) h0 zsld_e tn]
  · rw [zw_nk (by decide), zw_nk (by decide), zw_nc (by omega), tn _ (by omega) (by omega)]; exact s6
  · rw [zw_nc (by omega), zw_nc (by omega), zw_nc (by omega)]
  · rw [zw_nc (by omega), zw_nc (by omega), zw_nc (by omega)]
  · rw [zw_nc (by omega), zw_nc (by omega), zw_nc (by omega)]
  · rw [zw_nc (by omega), zw_nc (by omega), zw_nc (by omega)]
  · rw [zw_nc (by omega), zw_nc (by omega), zw_nc (by omega), tn _ (by omega) (by omega)]; exact (s8 i hi).2.2
  · by_cases q : i = w
    · rw [q, zw_nc (by omega), zw_nc (by omega), zw_eq, zsld_e]
    · rw [zw_nc (by omega), zw_nc (by omega), zw_nk q, tn _ (by omega) (by omega)]; exact (s9 i hi).2.2
theorem zday_keep (hW : zwf S) (x : Nat) {k : Nat} (h : k < 24 ∨ 31 ≤ k) : zday S x k = S k := by
  have hm := hW.m
  unfold zday
  by_cases h1 : S 2 = 0 ∨ x % 3 = 0
  · rw [if_pos h1]
    split
    · exact zlos_n (by omega)
    · rfl
  · rw [if_neg h1]
    have hw := Nat.mod_lt x (show 0 < S 2 by omega)
    split
    · exact ztkn_n (by omega)
    · split
      · rfl
      · exact zsld_n (by omega) (by omega)
theorem zwf.day (hW : zwf S) (x : Nat) : zwf (zday S x) := by
  have hm := hW.m
  unfold zday
  by_cases h1 : S 2 = 0 ∨ x % 3 = 0
  · rw [if_pos h1]
    split
    · rename_i h
      exact hW.los h
    · exact hW
  · rw [if_neg h1]
    have hw := Nat.mod_lt x (show 0 < S 2 by omega)
    split
    · exact hW.taken (by omega) ztkn_e (fun k hk => ztkn_n hk)
    · split
      · exact hW
      · rename_i h0
        rcases zbst_ok (S := S) (c := x % S 2) with q | ⟨q1, q2, q3⟩
        · exact absurd q h0
        · exact hW.sold hw q3 zsld_e (fun k hk h2 => zsld_n hk h2)
theorem zpay_cg (hn : S 0 ≤ 10) (h : ∀ k, k < 24 ∨ 31 ≤ k → T k = S k) (s : Nat) : zpay T s = zpay S s := by
  unfold zpay
  rw [h 0 (by omega)]
  refine zsum_congr (fun i hi => ?_)
  unfold zone
  rw [h (3 + i) (by omega), h (31 + i) (by omega), h 23 (by omega), h 0 (by omega), h 1 (by omega), zair_cg hn (fun k hk => h k (by omega))]
theorem zlr {x n : Nat} (hx : x < 2 ^ 63) (h0 : 0 < n) (hn : n < 2 ^ 31) : Int64.toInt32 (zlrem (lN x) (Int32.toInt64 (nI n))) = nI (x % n) := by
  rw [nI_l hn, show zlrem (lN x) (lN n) = lN (x % n) from pk_lRem hx h0 (by omega), lN_i]
theorem zl3 {x : Nat} (hx : x < 2 ^ 63) : (lg_cmp (zlrem (lN x) 3) 0 = 0) ↔ x % 3 = 0 := by
  rw [lg_cmp_eq, show zlrem (lN x) 3 = lN (x % 3) from pk_lRem (b := 3) hx (by decide) (by decide)]
  exact pk_lEQ (b := 0) (by omega) (by decide)
theorem s_restBy (hd : 1 ≤ d) {x n : Nat} (hx : x < 2 ^ 63) (h0 : 0 < n) (hn : n < 2 ^ 31) : (zenv zbt d).1 133 [.long (lN x), .int (nI n)] M = some (nI (x % n), M) := by
  obtain ⟨d, rfl⟩ : ∃ e, d = e + 1 := ⟨d - 1, by omega⟩
  have hne : ¬ (Int32.toInt64 (nI n) = 0) := fun q => by
    rw [nI_l hn] at q
    have := (pk_lEQ (b := 0) (by omega) (by decide)).mp q
    omega
  apply c_X7_restBy
  apply zL_of; rw [e_X7_restBy_0, if_neg (nI_nle h0 hn), zck_t (by rw [decide_eq_false hne]; rfl), zlr hx h0 hn]; rfl
theorem s_liveDay (hd : 6 ≤ d) (hb : zsh b) (hW : zwf S) (hp : 0 < S 0) (hS : zSheet S b M) {S0 : Nat → Nat} (hL : zHL S0 = zHL S) (hF : zFin S0 M) (hP : ∀ i x, (zHL S)[i]? = some x → M.1 56 i = nI (zpay S x)) {x : Nat} (hx : x < 2 ^ 63) : ∃ M', (zenv zbt d).2.2 132 [.ref 0, .ref b, .long (lN x)] M = some M' ∧ zFr [b, b + 6] M M' ∧ zSheet (zday S x) b M' := by
  obtain ⟨d, rfl⟩ : ∃ e, d = e + 1 := ⟨d - 1, by omega⟩
  have hn := hW.n
  have hm := hW.m
  have hc := Nat.mod_lt x hp
  by_cases h1 : S 2 = 0 ∨ x % 3 = 0
  · have hD : zday S x = if (zon S).testBit (x % S 0) then zlos S (x % S 0) else S := by unfold zday; rw [if_pos h1]
    rw [hD]
    cases ht : (zon S).testBit (x % S 0)
    · refine ⟨M, ?_, zFr.rf, by rw [if_neg (by decide)]; exact hS⟩
      apply c_X7_liveDay
      apply zL_of; rw [e_X7_liveDay_0 _ _ _ hb, hS.2.2.1, hS.2.1, s_restBy (by omega) hx hp (by omega), Option.bind_some]
      dsimp only
      rw [s_isOn (by omega) hb hW hS (by omega), Option.bind_some]
      dsimp only
      rw [ht, zbi_f (by decide), if_pos rfl]
      by_cases h2 : S 2 = 0
      · rw [h2, if_pos zn0]; rfl
      · rw [if_neg (nI_ne0 (by omega) (by omega)), if_pos ((zl3 hx).mpr (h1.resolve_left h2))]; rfl
    · refine ⟨zw (zw M b 5 (nI (zdif (zon S) (2 ^ (x % S 0))))) b 6 (nI (S 25 ||| 2 ^ (x % S 0))), ?_, (zFr.rf.w (by simp)).w (by simp), by rw [if_pos rfl]; exact zSheet.los hW hS _⟩
      apply c_X7_liveDay
      apply zL_of; rw [e_X7_liveDay_0 _ _ _ hb, hS.2.2.1, hS.2.1, s_restBy (by omega) hx hp (by omega), Option.bind_some]
      dsimp only
      rw [s_isOn (by omega) hb hW hS (by omega), Option.bind_some]
      dsimp only
      rw [ht, zbi_t rfl, if_neg zn10, s_lose (by omega) hb hW hS (by omega), Option.bind_some]
      by_cases h2 : S 2 = 0
      · rw [h2, if_pos zn0]; rfl
      · rw [if_neg (nI_ne0 (by omega) (by omega)), if_pos ((zl3 hx).mpr (h1.resolve_left h2))]; rfl
  · have hw := Nat.mod_lt x (show 0 < S 2 by omega)
    have hl3 : ¬ (lg_cmp (zlrem (lN x) 3) 0 = 0) := fun q => h1 (Or.inr ((zl3 hx).mp q))
    have hD : zday S x = if S (26 + x % S 2) ≠ 0 then ztkn S (x % S 2) else if zbst S (x % S 2) = 0 then S else zsld S (x % S 2) (zbst S (x % S 2)) := by unfold zday; rw [if_neg h1]
    rw [hD]
    have pre : (zenv zbt d).1 63 [.ref b, .int (nI (x % S 2))] M = some (zbi (S (26 + x % S 2) ≠ 0), M) := s_isServed (by omega) hb hW hS hw
    by_cases h2 : S (26 + x % S 2) = 0
    · have hbl := zbst_lt (S := S) (c := x % S 2)
      have hp10 := zpow10 hn
      by_cases h3 : zbst S (x % S 2) = 0
      · refine ⟨M, ?_, zFr.rf, by rw [if_neg (fun q => q h2), if_pos h3]; exact hS⟩
        apply c_X7_liveDay
        apply zL_of; rw [e_X7_liveDay_0 _ _ _ hb, hS.2.2.1, if_neg (nI_ne0 (by omega) (by omega)), if_neg hl3, s_restBy (by omega) hx (by omega) (by omega), Option.bind_some]
        dsimp only
        rw [pre, Option.bind_some]
        dsimp only
        rw [zbi_f (fun q => q h2), if_pos rfl, s_bestForC (by omega) hb hW hS hL hF hP hw, Option.bind_some]
        dsimp only
        rw [h3, if_pos zn0]; rfl
      · refine ⟨zw (zw (zw M (b + 6) (x % S 2) (nI (zbst S (x % S 2)))) b 5 (nI (zdif (zon S) (zbst S (x % S 2))))) b 4 (nI (S 24 + ztear S (zon S) (zbst S (x % S 2)))), ?_, ((zFr.rf.w (by simp)).w (by simp)).w (by simp), by rw [if_neg (fun q => q h2), if_neg h3]; exact zSheet.sld hW hS hw h2⟩
        apply c_X7_liveDay
        apply zL_of; rw [e_X7_liveDay_0 _ _ _ hb, hS.2.2.1, if_neg (nI_ne0 (by omega) (by omega)), if_neg hl3, s_restBy (by omega) hx (by omega) (by omega), Option.bind_some]
        dsimp only
        rw [pre, Option.bind_some]
        dsimp only
        rw [zbi_f (fun q => q h2), if_pos rfl, s_bestForC (by omega) hb hW hS hL hF hP hw, Option.bind_some]
        dsimp only
        rw [if_neg (nI_ne0 (by omega) (by omega)), s_tearsOf (by omega) hb hW hS (by omega), Option.bind_some]
        dsimp only
        rw [s_sell (by omega) hb hW hS hw, Option.bind_some]; rfl
    · refine ⟨zw (zw M b 5 (nI (zon S ||| S (26 + x % S 2)))) (b + 6) (x % S 2) 0, ?_, (zFr.rf.w (by simp)).w (by simp), by rw [if_pos h2]; exact zSheet.tkn hW hS hw⟩
      apply c_X7_liveDay
      apply zL_of; rw [e_X7_liveDay_0 _ _ _ hb, hS.2.2.1, if_neg (nI_ne0 (by omega) (by omega)), if_neg hl3, s_restBy (by omega) hx (by omega) (by omega), Option.bind_some]
      dsimp only
      rw [pre, Option.bind_some]
      dsimp only
      rw [zbi_t h2, if_neg zn10, s_takeBack (by omega) hb hW hS hw, Option.bind_some]; rfl
theorem s_day (hd : 6 ≤ d) (hW : zwf S) (hp : 0 < S 0) (hM : zMod S M) (hB : zSv S M) {x : Nat} (hx : x < 2 ^ 63) : ∃ M', (zenv zbt d).2.2 218 [.ref 66, .long (lN x)] M = some M' ∧ zFr [72] M M' ∧ zMod (zday S x) M' := by
  obtain ⟨d, rfl⟩ : ∃ e, d = e + 1 := ⟨d - 1, by omega⟩
  have hn := hW.n
  have hm := hW.m
  have hon := hW.on
  have hsp := hW.sp
  have hc := Nat.mod_lt x hp
  have hne0 : (!(decide (Int32.toInt64 (nI (S 0)) = 0))) = true := by
    rw [decide_eq_false]
    · rfl
    · intro q
      rw [nI_l (by omega)] at q
      have := (pk_lEQ (b := 0) (by omega) (by decide)).mp q
      omega
  by_cases h1 : S 2 = 0 ∨ x % 3 = 0
  · have hD : zday S x = if (zon S).testBit (x % S 0) then zlos S (x % S 0) else S := by unfold zday; rw [if_pos h1]
    rw [hD]
    cases ht : (zon S).testBit (x % S 0)
    · refine ⟨zw M 72 25 (nI (S 25)), ?_, zFr.rf.w (by decide), by rw [if_neg (by decide)]; exact hM.wr (by omega) rfl (fun k _ => rfl)⟩
      apply c_X8_day
      apply zL_of; rw [e_X8_day_0, hM.1 0 (by decide), hM.1 2 (by decide), hM.1 25 (by decide), zck_t hne0, zlr hx hp (by omega), s_on (by omega) hW hM, Option.bind_some]
      dsimp only
      rw [s_has (by omega) (by omega) (by omega), Option.bind_some]
      dsimp only
      rw [ht, zbi_f (by decide), if_pos rfl, show nI (S 25) ||| 0 = nI (S 25) by rw [show (0 : Int32) = nI 0 from rfl, zor, Nat.or_zero]]
      by_cases h2 : S 2 = 0
      · rw [h2, if_pos zn0]; rfl
      · rw [if_neg (nI_ne0 (by omega) (by omega)), if_pos ((zl3 hx).mpr (h1.resolve_left h2))]; rfl
    · refine ⟨zw M 72 25 (nI (S 25 ||| 2 ^ (x % S 0))), ?_, zFr.rf.w (by decide), by rw [if_pos rfl]; exact hM.wr (by omega) rfl (fun k hk => zlos_n hk)⟩
      apply c_X8_day
      apply zL_of; rw [e_X8_day_0, hM.1 0 (by decide), hM.1 2 (by decide), hM.1 25 (by decide), zck_t hne0, zlr hx hp (by omega), s_on (by omega) hW hM, Option.bind_some]
      dsimp only
      rw [s_has (by omega) (by omega) (by omega), Option.bind_some]
      dsimp only
      rw [ht, zbi_t rfl, if_neg zn10, show zshl 1 (nI (x % S 0)) = nI (2 ^ (x % S 0)) from zshl1 (by omega), zor]
      by_cases h2 : S 2 = 0
      · rw [h2, if_pos zn0]; rfl
      · rw [if_neg (nI_ne0 (by omega) (by omega)), if_pos ((zl3 hx).mpr (h1.resolve_left h2))]; rfl
  · have hw := Nat.mod_lt x (show 0 < S 2 by omega)
    have hl3 : ¬ (lg_cmp (zlrem (lN x) 3) 0 = 0) := fun q => h1 (Or.inr ((zl3 hx).mp q))
    have hne2 : (!(decide (Int32.toInt64 (nI (S 2)) = 0))) = true := by
      rw [decide_eq_false]
      · rfl
      · intro q
        rw [nI_l (by omega)] at q
        have := (pk_lEQ (b := 0) (by omega) (by decide)).mp q
        omega
    have hD : zday S x = if S (26 + x % S 2) ≠ 0 then ztkn S (x % S 2) else if zbst S (x % S 2) = 0 then S else zsld S (x % S 2) (zbst S (x % S 2)) := by unfold zday; rw [if_neg h1]
    rw [hD]
    have e26 : (26 : Int32) + nI (x % S 2) = nI (26 + x % S 2) := nI_add 26 _
    have hpc := hW.pc (c := x % S 2) (by omega)
    by_cases h2 : S (26 + x % S 2) = 0
    · have hbl := zbst_lt (S := S) (c := x % S 2)
      have hp10 := zpow10 hn
      by_cases h3 : zbst S (x % S 2) = 0
      · refine ⟨M, ?_, zFr.rf, by rw [if_neg (fun q => q h2), if_pos h3]; exact hM⟩
        apply c_X8_day
        apply zL_of; rw [e_X8_day_0, hM.1 0 (by decide), hM.1 2 (by decide), zck_t hne0, if_neg (nI_ne0 (by omega) (by omega)), if_neg hl3, zck_t hne2, zlr hx (by omega) (by omega), e26, zck_t (zinN (by omega) (by decide)), hM.at (by omega), h2, if_pos (by decide), s_bestForM (by omega) hW hM hB hw, Option.bind_some]
        dsimp only
        rw [h3, if_pos (by decide)]; rfl
      · have hsv : (zenv zbt d).2.2 180 [.ref 66, .int (nI (x % S 2)), .int (nI (zbst S (x % S 2)))] M = some (zw (zw M 72 24 (nI (S 24 + ztear S (zon S) (zbst S (x % S 2))))) 72 (26 + x % S 2) (nI (zbst S (x % S 2)))) := by
          obtain ⟨d, rfl⟩ : ∃ e, d = e + 1 := ⟨d - 1, by omega⟩
          apply c_X8_serves
          apply zL_of; rw [e_X8_serves_0, s_mtears (by omega) hW hM (by omega), Option.bind_some, e26, zck_t (zinN (by omega) (by decide)), hM.1 24 (by decide), zcN (by omega), nI_add]; rfl
        refine ⟨zw (zw M 72 24 (nI (S 24 + ztear S (zon S) (zbst S (x % S 2))))) 72 (26 + x % S 2) (nI (zbst S (x % S 2))), ?_, (zFr.rf.w (by decide)).w (by decide), ?_⟩
        · apply c_X8_day
          apply zL_of; rw [e_X8_day_0, hM.1 0 (by decide), hM.1 2 (by decide), zck_t hne0, if_neg (nI_ne0 (by omega) (by omega)), if_neg hl3, zck_t hne2, zlr hx (by omega) (by omega), e26, zck_t (zinN (by omega) (by decide)), hM.at (by omega), h2, if_pos (by decide), s_bestForM (by omega) hW hM hB hw, Option.bind_some]
          dsimp only
          rw [if_neg (nI_nle (by omega) (by omega)), hsv, Option.bind_some]; rfl
        · rw [if_neg (fun q => q h2), if_neg h3]
          have m1 := hM.wr (T := fun k => if k = 24 then S 24 + ztear S (zon S) (zbst S (x % S 2)) else S k) (p := 24) (v := S 24 + ztear S (zon S) (zbst S (x % S 2))) (by omega) (by rw [if_pos rfl]) (fun k hk => by rw [if_neg hk])
          exact m1.wr (by omega) zsld_e (fun k hk => by unfold zsld; rw [if_neg hk])
    · refine ⟨zw M 72 (26 + x % S 2) 0, ?_, zFr.rf.w (by decide), by rw [if_pos h2]; exact hM.wr (v := 0) (by omega) ztkn_e (fun k hk => ztkn_n hk)⟩
      apply c_X8_day
      apply zL_of; rw [e_X8_day_0, hM.1 0 (by decide), hM.1 2 (by decide), zck_t hne0, if_neg (nI_ne0 (by omega) (by omega)), if_neg hl3, zck_t hne2, zlr hx (by omega) (by omega), e26, zck_t (zinN (by omega) (by decide)), hM.at (by omega), if_neg (nI_nle (by omega) (by omega)), zck_t (zinN (by omega) (by decide)), zcN (by omega)]; rfl
end ZX52

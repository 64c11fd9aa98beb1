/-! spoil, value, over, serve, bringBack -/
theorem z2b {c i : Nat} : (2 ^ c).testBit i = true ↔ c = i := by rw [Nat.testBit_two_pow, decide_eq_true_eq]
section ZX30
variable {d : Nat} {M : ZM} {S T : Nat → Nat} {b : Nat}
theorem zon_sell {w p : Nat} (hw : w < 5) (h0 : S (26 + w) = 0) (hp : T (26 + w) = p) (h : ∀ k, k ≠ 26 + w → k ≠ 24 → T k = S k) : zon T = zdif (zon S) p := by
  apply zeqb
  intro i
  rw [zdif_bit, Bool.and_eq_true, Bool.not_eq_true', zon_iff, zon_iff, h 0 (by omega) (by omega), h 25 (by omega) (by omega)]
  constructor
  · rintro ⟨h1, h2, h3⟩
    refine ⟨⟨h1, h2, fun e he => ?_⟩, ?_⟩
    · by_cases q : e = w
      · rw [q, h0, Nat.zero_testBit]
      · rw [← h (26 + e) (by omega) (by omega)]; exact h3 e he
    · rw [← hp]; exact h3 w hw
  · rintro ⟨⟨h1, h2, h3⟩, h4⟩
    refine ⟨h1, h2, fun e he => ?_⟩
    by_cases q : e = w
    · rw [q, hp]; exact h4
    · rw [h (26 + e) (by omega) (by omega)]; exact h3 e he
theorem zand0 {a b i : Nat} (h : a &&& b = 0) (ha : a.testBit i = true) : b.testBit i = false := by
  have := congrArg (fun z => z.testBit i) h
  simpa only [Nat.testBit_and, Nat.zero_testBit, ha, Bool.true_and] using this
theorem zlt_of_bit {a n i : Nat} (h : a < 2 ^ n) (hi : a.testBit i = true) : i < n := by
  refine Nat.lt_of_not_le fun q => ?_
  rw [Nat.testBit_lt_two_pow (Nat.lt_of_lt_of_le h (Nat.pow_le_pow_right (by decide) q))] at hi
  cases hi
theorem zon_take (hW : zwf S) {w : Nat} (hw : w < 5) (hp : T (26 + w) = 0) (h : ∀ k, k ≠ 26 + w → k ≠ 24 → T k = S k) : zon T = zon S ||| S (26 + w) := by
  obtain ⟨-, -, -, -, -, -, -, w8, w9, w10⟩ := hW
  apply zeqb
  intro i
  rw [Nat.testBit_or, Bool.or_eq_true, zon_iff, zon_iff, h 0 (by omega) (by omega), h 25 (by omega) (by omega)]
  constructor
  · rintro ⟨h1, h2, h3⟩
    cases hb : (S (26 + w)).testBit i
    · refine Or.inl ⟨h1, h2, fun e he => ?_⟩
      by_cases q : e = w
      · rw [q]; exact hb
      · rw [← h (26 + e) (by omega) (by omega)]; exact h3 e he
    · exact Or.inr rfl
  · rintro (⟨h1, h2, h3⟩ | hb)
    · refine ⟨h1, h2, fun e he => ?_⟩
      by_cases q : e = w
      · rw [q, hp, Nat.zero_testBit]
      · rw [h (26 + e) (by omega) (by omega)]; exact h3 e he
    · refine ⟨zlt_of_bit (w8 w hw).1 hb, zand0 (w10 w hw) hb, fun e he => ?_⟩
      by_cases q : e = w
      · rw [q, hp, Nat.zero_testBit]
      · rw [h (26 + e) (by omega) (by omega)]; exact zand0 (w9 w e hw he (fun z => q z.symm)) hb
theorem zon_lose {c : Nat} (hp : T 25 = S 25 ||| 2 ^ c) (h : ∀ k, k ≠ 25 → T k = S k) : zon T = zdif (zon S) (2 ^ c) := by
  apply zeqb
  intro i
  rw [zdif_bit, Bool.and_eq_true, Bool.not_eq_true', zon_iff, zon_iff, h 0 (by omega), hp, Nat.testBit_or, Bool.or_eq_false_iff]
  constructor
  · rintro ⟨h1, ⟨h2, h4⟩, h3⟩
    exact ⟨⟨h1, h2, fun e he => by rw [← h (26 + e) (by omega)]; exact h3 e he⟩, h4⟩
  · rintro ⟨⟨h1, h2, h3⟩, h4⟩
    exact ⟨h1, ⟨h2, h4⟩, fun e he => by rw [h (26 + e) (by omega)]; exact h3 e he⟩
theorem s_takeBack (hd : 1 ≤ d) (hb : zsh b) (hW : zwf S) (hS : zSheet S b M) {w : Nat} (hw : w < S 2) : (zenv zbt d).2.2 59 [.ref b, .int (nI w)] M = some (zw (zw M b 5 (nI (zon S ||| S (26 + w)))) (b + 6) w 0) := by
  obtain ⟨d, rfl⟩ : ∃ e, d = e + 1 := ⟨d - 1, by omega⟩
  have hm := hW.m
  apply c_X5_takeBack
  apply zL_of; rw [e_X5_takeBack_0 _ _ _ hb, zck_t (zinN (by omega) (by decide)), zck_t (zinN (by omega) (by decide)), zcN (by omega), hS.2.2.2.2.2.1, (hS.2.2.2.2.2.2.2.2.2 w hw).2.2, zor]; rfl
theorem s_sell (hd : 1 ≤ d) (hb : zsh b) (hW : zwf S) (hS : zSheet S b M) {w p t : Nat} (hw : w < S 2) : (zenv zbt d).2.2 58 [.ref b, .int (nI w), .int (nI p), .int (nI t)] M = some (zw (zw (zw M (b + 6) w (nI p)) b 5 (nI (zdif (zon S) p))) b 4 (nI (S 24 + t))) := by
  obtain ⟨d, rfl⟩ : ∃ e, d = e + 1 := ⟨d - 1, by omega⟩
  have hm := hW.m
  have hon := hW.on
  apply c_X5_sell
  apply zL_of; rw [e_X5_sell_0 _ _ _ hb, zck_t (zinN (by omega) (by decide)), zcN (by omega), hS.2.2.2.2.2.1, hS.2.2.2.2.1, zandn (by omega), nI_add]; rfl
theorem s_lose (hd : 1 ≤ d) (hb : zsh b) (hW : zwf S) (hS : zSheet S b M) {c : Nat} (hc : c < 10) : (zenv zbt d).2.2 60 [.ref b, .int (nI c)] M = some (zw (zw M b 5 (nI (zdif (zon S) (2 ^ c)))) b 6 (nI (S 25 ||| 2 ^ c))) := by
  obtain ⟨d, rfl⟩ : ∃ e, d = e + 1 := ⟨d - 1, by omega⟩
  have hon := hW.on
  apply c_X5_lose
  apply zL_of; rw [e_X5_lose_0 _ _ _ hb, hS.2.2.2.2.2.1, hS.2.2.2.2.2.2.1, show zshl 1 (nI c) = nI (2 ^ c) from zshl1 (by omega), zandn (by omega), zor]; rfl
theorem s_isFigC (hd : 1 ≤ d) (x : Int32) : (zenv zbt d).1 127 [.int x] M = some (zbi (zin x 10 = true), M) := by
  obtain ⟨d, rfl⟩ : ∃ e, d = e + 1 := ⟨d - 1, by omega⟩
  apply c_X7_isFigure
  apply zL_of; rw [e_X7_isFigure_0]
  cases hz : zin x 10
  · rw [zbi_f (by decide)]
    rcases zin_f (by decide) hz with h | h
    · rw [if_pos h]; rfl
    · by_cases h0 : x < 0
      · rw [if_pos h0]; rfl
      · rw [if_neg h0, if_pos]
        · rfl
        · rw [Int32.lt_iff_toInt_lt]
          rw [Int32.le_iff_toInt_le] at h
          have : (nI 10).toInt = 10 := rfl
          have : (9 : Int32).toInt = 9 := rfl
          omega
  · obtain ⟨j, hj, rfl⟩ := (zin_iff (by decide)).mp hz
    rw [zbi_t rfl, if_neg (nI_pos (by omega)), if_neg (show ¬ ((9 : Int32) < nI j) from nI_nlt (show j ≤ 9 by omega) (by decide))]; rfl
theorem zg9 {x : Int32} : ((0 : Int32) ≤ x ∧ x ≤ 9) ↔ zin x 10 = true := zgm (n := 10) (by decide)
theorem s_isCustN (hd : 2 ≤ d) (hW : zwf S) (hM : zMod S M) (x : Int32) : (zenv zbt d).1 170 [.ref 66, .int x] M = some (zbi (zin x (S 2) = true), M) := by
  obtain ⟨d, rfl⟩ : ∃ e, d = e + 1 := ⟨d - 1, by omega⟩
  have hn := hW.m
  apply c_X8_isCustomer
  apply zL_of; rw [e_X8_isCustomer_0, hM.1 2 (by decide), s_in (by omega), Option.bind_some]
  dsimp only
  rw [zck_t zbi_01, zbi_eq (zgm (show S 2 < 2 ^ 30 by omega))]; rfl
theorem a_value (hI : zInv S M) (x y : Int32) : zAl 91 184 [.int x, .int y] M := by
  intro d hd
  obtain ⟨d, rfl⟩ : ∃ e, d = e + 1 := ⟨d - 1, by omega⟩
  have hn := hI.wf.n
  have hm := hI.wf.m
  cases hz : zin x (S 0)
  · refine ⟨-1000001, M, M, S, ?_, ?_, hI⟩
    · apply c_X7_value
      apply zL_of; rw [e_X7_value_0, s_isCellC (by omega) hI, Option.bind_some]
      dsimp only
      rw [hz, zbi_f (by decide), if_pos rfl]; rfl
    · apply c_X8_value
      apply zL_of; rw [e_X8_value_0, s_isCellM (by omega) hI, Option.bind_some]
      dsimp only
      rw [hz, zbi_f (by decide), if_pos rfl]; rfl
  cases hy : zin y 10
  · refine ⟨-1000001, M, M, S, ?_, ?_, hI⟩
    · apply c_X7_value
      apply zL_of; rw [e_X7_value_0, s_isCellC (by omega) hI, Option.bind_some]
      dsimp only
      rw [zbi_t hz, if_neg zn10, s_isFigC (by omega), Option.bind_some]
      dsimp only
      rw [hy, zbi_f (by decide), if_pos rfl]; rfl
    · apply c_X8_value
      apply zL_of; rw [e_X8_value_0, s_isCellM (by omega) hI, Option.bind_some]
      dsimp only
      rw [zbi_t hz, if_neg zn10, s_in (by omega), Option.bind_some, zbi_eq zg9]
      dsimp only
      rw [hy, zbi_f (by decide), if_pos rfl]; rfl
  obtain ⟨c, hc, rfl⟩ := (zin_iff (by omega)).mp hz
  obtain ⟨v, hv, rfl⟩ := (zin_iff (by decide)).mp hy
  obtain ⟨k1, k2, k3⟩ := hI.wf.2.2.2.1 c hc
  obtain ⟨T, hT⟩ : ∃ T : Nat → Nat, T = fun k => if k = 31 + c then v else S k := ⟨_, rfl⟩
  have tn : ∀ k, k ≠ 31 + c → T k = S k := fun k hk => by rw [hT]; dsimp only; rw [if_neg hk]
  have te : T (31 + c) = v := by rw [hT]; dsimp only; rw [if_pos rfl]
  have hW' : zwf T := hI.wf.mk' (fun k hk => tn k (by omega)) (fun e he => by
      by_cases q : e = c
      · rw [q, te]; omega
      · rw [tn _ (by omega)]; exact (hI.wf.2.2.2.1 e he).2.2) (by rw [tn _ (by omega)]; exact hI.wf.2.2.2.2.1) (by rw [tn _ (by omega)]; exact hI.wf.2.2.2.2.2.2.1) (fun e he => by rw [tn _ (by omega)]; exact hI.wf.2.2.2.2.2.2.2.1 e he) (fun e e' he he' => by rw [tn _ (by omega), tn _ (by omega)]; exact hI.wf.2.2.2.2.2.2.2.2.1 e e' he he') (fun e he => by rw [tn _ (by omega), tn _ (by omega)]; exact hI.wf.2.2.2.2.2.2.2.2.2 e he)
  have hA : zAct 3 c (S (31 + c)) S T := Or.inr (Or.inr (Or.inr (Or.inl ⟨rfl, hc, rfl, tn⟩)))
  have hon : zon T = zon S := by
    unfold zon zgone
    rw [tn 0 (by omega), tn 25 (by omega), tn 26 (by omega), tn 27 (by omega), tn 28 (by omega), tn 29 (by omega), tn 30 (by omega)]
  have hsh := hI.sh
  have hx : zSheet T 20 (zw M 23 c (nI v)) := by
    obtain ⟨s0, s1, s2, s3, s4, s5, s6, s7, s8, s9⟩ := hsh
    refine hI.sh.mk' hn (fun k hk => tn k (by omega)) ?_ ?_ ?_ ?_ ?_ ?_ ?_ ?_ ?_ ?_ ?_ ?_ (fun i hi => ?_) (fun i hi h5 => ?_) hm
    all_goals first
      | (rw [zw_nc (by decide)]; done)
      | skip
    · rw [zw_nc (by decide), tn _ (by omega)]; exact s3
    · rw [zw_nc (by decide), tn _ (by omega)]; exact s4
    · rw [zw_nc (by decide), hon]; exact s5
    · rw [zw_nc (by decide), tn _ (by omega)]; exact s6
    · by_cases q : i = c
      · rw [q, te, zw_eq]
      · rw [zw_nk q, tn _ (by omega)]; exact (s8 i hi).2.2
    · rw [zw_nc (by decide), tn _ (by omega)]; exact (s9 i hi).2.2
  obtain ⟨M1, e1, f1, hs1, hm1, M1', e2, hm2, fin⟩ := zact (d := d) (by omega) hI hA hW' (by omega) (zFr.rf.w (by decide)) hx
  have e1' : (zenv zbt d).2.2 0 [.ref 49, .int 3, .int (nI c), .int (nI (S (31 + c)))] (zw M 23 c (nI v)) = some M1 := e1
  have e31 : (31 : Int32) + nI c = nI (31 + c) := nI_add 31 c
  refine ⟨nI (S (31 + c)), M1, zw M1' 72 (31 + c) (nI v), T, ?_, ?_, fin _ (zFr.rf.w (by decide)) (fun k hk => ?_)⟩
  · apply c_X7_value
    apply zL_of; rw [e_X7_value_0, s_isCellC (by omega) hI, Option.bind_some]
    dsimp only
    rw [zbi_t hz, if_neg zn10, s_isFigC (by omega), Option.bind_some]
    dsimp only
    rw [zbi_t hy, if_neg zn10, zck_t (zinN (by omega) (by decide)), zck_t (zinN (by omega) (by decide)), zcN (by omega), (hsh.2.2.2.2.2.2.2.2.1 c hc).2.2, e1', Option.bind_some]; rfl
  · apply c_X8_value
    apply zL_of; rw [e_X8_value_0, s_isCellN (by omega) hI.wf hm1, Option.bind_some]
    dsimp only
    rw [zbi_t hz, if_neg zn10, s_in (by omega), Option.bind_some, zbi_eq zg9]
    dsimp only
    rw [zbi_t hy, if_neg zn10, e2, Option.bind_some, e31, zck_t (zinN (by omega) (by decide)), zck_t (zinN (by omega) (by decide)), zcN (by omega), hm2.1 _ (by omega)]; rfl
  · by_cases q : k = 31 + c
    · rw [q, zw_eq, te]
    · rw [zw_nk q, tn k q]; exact hm2.1 k hk
theorem a_over (hI : zInv S M) (y : Int32) : zAl 92 185 [.int y] M := by
  intro d hd
  obtain ⟨d, rfl⟩ : ∃ e, d = e + 1 := ⟨d - 1, by omega⟩
  have hn := hI.wf.n
  have hm := hI.wf.m
  by_cases h0 : S 0 = 0
  · refine ⟨-1000002, M, M, S, ?_, ?_, hI⟩
    · apply c_X7_over
      apply zL_of; rw [e_X7_over_0, s_isThereC (by omega) hI, Option.bind_some]
      dsimp only
      rw [zbi_f (fun q => q h0), if_pos rfl]; rfl
    · apply c_X8_over
      apply zL_of; rw [e_X8_over_0, hI.md.1 0 (by decide), if_pos (by rw [h0]; rfl)]; rfl
  have h0' : ¬ (nI (S 0) = 0) := nI_ne0 (by omega) (by omega)
  cases hy : zin y 10
  · refine ⟨-1000001, M, M, S, ?_, ?_, hI⟩
    · apply c_X7_over
      apply zL_of; rw [e_X7_over_0, s_isThereC (by omega) hI, Option.bind_some]
      dsimp only
      rw [zbi_t h0, if_neg zn10, s_isFigC (by omega), Option.bind_some]
      dsimp only
      rw [hy, zbi_f (by decide), if_pos rfl]; rfl
    · apply c_X8_over
      apply zL_of; rw [e_X8_over_0, hI.md.1 0 (by decide), if_neg h0', s_in (by omega), Option.bind_some, zbi_eq zg9]
      dsimp only
      rw [hy, zbi_f (by decide), if_pos rfl]; rfl
  obtain ⟨v, hv, rfl⟩ := (zin_iff (by decide)).mp hy
  have ho := hI.wf.2.2.2.2.1
  obtain ⟨T, hT⟩ : ∃ T : Nat → Nat, T = fun k => if k = 23 then v else S k := ⟨_, rfl⟩
  have tn : ∀ k, k ≠ 23 → T k = S k := fun k hk => by rw [hT]; dsimp only; rw [if_neg hk]
  have te : T 23 = v := by rw [hT]; rfl
  have hW' : zwf T := hI.wf.mk' (fun k hk => tn k (by omega)) (fun e he => by
      rw [tn _ (by omega)]; exact (hI.wf.2.2.2.1 e he).2.2) (by rw [te]; omega) (by rw [tn _ (by omega)]; exact hI.wf.2.2.2.2.2.2.1) (fun e he => by rw [tn _ (by omega)]; exact hI.wf.2.2.2.2.2.2.2.1 e he) (fun e e' he he' => by rw [tn _ (by omega), tn _ (by omega)]; exact hI.wf.2.2.2.2.2.2.2.2.1 e e' he he') (fun e he => by rw [tn _ (by omega), tn _ (by omega)]; exact hI.wf.2.2.2.2.2.2.2.2.2 e he)
  have hA : zAct 4 0 (S 23) S T := Or.inr (Or.inr (Or.inr (Or.inr ⟨rfl, rfl, tn⟩)))
  have hon : zon T = zon S := by
    unfold zon zgone
    rw [tn 0 (by omega), tn 25 (by omega), tn 26 (by omega), tn 27 (by omega), tn 28 (by omega), tn 29 (by omega), tn 30 (by omega)]
  have hx : zSheet T 20 (zw M 20 3 (nI v)) := by
    obtain ⟨s0, s1, s2, s3, s4, s5, s6, s7, s8, s9⟩ := hI.sh
    refine hI.sh.mk' hn (fun k hk => tn k (by omega)) ?_ ?_ ?_ ?_ ?_ ?_ ?_ ?_ ?_ ?_ ?_ ?_ (fun i hi => ?_) (fun i hi h5 => ?_) hm
    all_goals first
      | (rw [zw_nc (by decide)]; done)
      | (rw [zw_nk (by decide)]; done)
      | skip
    · rw [zw_eq, te]
    · rw [zw_nk (by decide), tn _ (by omega)]; exact s4
    · rw [zw_nk (by decide), hon]; exact s5
    · rw [zw_nk (by decide), tn _ (by omega)]; exact s6
    · rw [zw_nc (by decide), tn _ (by omega)]; exact (s8 i hi).2.2
    · rw [zw_nc (by decide), tn _ (by omega)]; exact (s9 i hi).2.2
  obtain ⟨M1, e1, f1, hs1, hm1, M1', e2, hm2, fin⟩ := zact (d := d) (by omega) hI hA hW' (by omega) (zFr.rf.w (by decide)) hx
  have e1' : (zenv zbt d).2.2 0 [.ref 49, .int 4, .int 0, .int (nI (S 23))] (zw M 20 3 (nI v)) = some M1 := e1
  refine ⟨nI (S 23), M1, zw M1' 72 23 (nI v), T, ?_, ?_, fin _ (zFr.rf.w (by decide)) (fun k hk => ?_)⟩
  · apply c_X7_over
    apply zL_of; rw [e_X7_over_0, s_isThereC (by omega) hI, Option.bind_some]
    dsimp only
    rw [zbi_t h0, if_neg zn10, s_isFigC (by omega), Option.bind_some]
    dsimp only
    rw [zbi_t hy, if_neg zn10, hI.sh.2.2.2.1, e1', Option.bind_some]; rfl
  · apply c_X8_over
    apply zL_of; rw [e_X8_over_0, hm1.1 0 (by decide), if_neg h0', s_in (by omega), Option.bind_some, zbi_eq zg9]
    dsimp only
    rw [zbi_t hy, if_neg zn10, e2, Option.bind_some, hm2.1 _ (by omega)]; rfl
  · by_cases q : k = 23
    · rw [q, zw_eq, te]
    · rw [zw_nk q, tn k q]; exact hm2.1 k hk
theorem a_spoil (hI : zInv S M) (x : Int32) : zAl 90 183 [.int x] M := by
  intro d hd
  obtain ⟨d, rfl⟩ : ∃ e, d = e + 1 := ⟨d - 1, by omega⟩
  have hn := hI.wf.n
  have hm := hI.wf.m
  have hon10 := hI.wf.on
  cases hz : zin x (S 0)
  · refine ⟨-1000001, M, M, S, ?_, ?_, hI⟩
    · apply c_X7_spoil
      apply zL_of; rw [e_X7_spoil_0, s_isCellC (by omega) hI, Option.bind_some]
      dsimp only
      rw [hz, zbi_f (by decide), if_pos rfl]; rfl
    · apply c_X8_spoil
      apply zL_of; rw [e_X8_spoil_0, s_isCellM (by omega) hI, Option.bind_some]
      dsimp only
      rw [hz, zbi_f (by decide), if_pos rfl]; rfl
  obtain ⟨c, hc, rfl⟩ := (zin_iff (by omega)).mp hz
  cases ht : (zon S).testBit c
  · refine ⟨-1000002, M, M, S, ?_, ?_, hI⟩
    · apply c_X7_spoil
      apply zL_of; rw [e_X7_spoil_0, s_isCellC (by omega) hI, Option.bind_some]
      dsimp only
      rw [zbi_t hz, if_neg zn10, s_isOn (by omega) (Or.inl rfl) hI.wf hI.sh (by omega), Option.bind_some]
      dsimp only
      rw [ht, zbi_f (by decide), if_pos rfl]; rfl
    · apply c_X8_spoil
      apply zL_of; rw [e_X8_spoil_0, s_isCellM (by omega) hI, Option.bind_some]
      dsimp only
      rw [zbi_t hz, if_neg zn10, s_on (by omega) hI.wf hI.md, Option.bind_some]
      dsimp only
      rw [s_has (by omega) (by omega) (by omega), Option.bind_some]
      dsimp only
      rw [ht, zbi_f (by decide), if_pos rfl]; rfl
  obtain ⟨-, o2, o3⟩ := zon_iff.mp ht
  obtain ⟨T, hT⟩ : ∃ T : Nat → Nat, T = fun k => if k = 25 then S 25 ||| 2 ^ c else S k := ⟨_, rfl⟩
  have tn : ∀ k, k ≠ 25 → T k = S k := fun k hk => by rw [hT]; dsimp only; rw [if_neg hk]
  have te : T 25 = S 25 ||| 2 ^ c := by rw [hT]; rfl
  have hW' : zwf T := hI.wf.mk' (fun k hk => tn k (by omega)) (fun e he => by
      rw [tn _ (by omega)]; exact (hI.wf.2.2.2.1 e he).2.2) (by rw [tn _ (by omega)]; exact hI.wf.2.2.2.2.1) (by rw [te]; exact Nat.or_lt_two_pow hI.wf.2.2.2.2.2.2.1 (Nat.pow_lt_pow_right (by decide) hc)) (fun e he => by rw [tn _ (by omega)]; exact hI.wf.2.2.2.2.2.2.2.1 e he) (fun e e' he he' => by rw [tn _ (by omega), tn _ (by omega)]; exact hI.wf.2.2.2.2.2.2.2.2.1 e e' he he') (fun e he => by
        rw [tn _ (by omega), te]
        apply Nat.eq_of_testBit_eq
        intro i
        have h1 := congrArg (fun z => z.testBit i) (hI.wf.2.2.2.2.2.2.2.2.2 e he)
        simp only [Nat.testBit_and, Nat.zero_testBit] at h1
        rw [Nat.testBit_and, Nat.testBit_or, Nat.zero_testBit]
        cases hb : (S (26 + e)).testBit i
        · rfl
        · rw [hb, Bool.true_and] at h1
          rw [h1, Nat.testBit_two_pow]
          have : ¬ c = i := fun q => by rw [← q, o3 e he] at hb; cases hb
          simp [this])
  have hA : zAct 2 c 0 S T := Or.inr (Or.inr (Or.inl ⟨rfl, hc, ht, te, tn⟩))
  have hon : zon T = zdif (zon S) (2 ^ c) := zon_lose te tn
  have hx : zSheet T 20 (zw (zw M 20 5 (nI (zdif (zon S) (2 ^ c)))) 20 6 (nI (S 25 ||| 2 ^ c))) := by
    obtain ⟨s0, s1, s2, s3, s4, s5, s6, s7, s8, s9⟩ := hI.sh
    refine hI.sh.mk' hn (fun k hk => tn k (by omega)) ?_ ?_ ?_ ?_ ?_ ?_ ?_ ?_ ?_ ?_ ?_ ?_ (fun i hi => ?_) (fun i hi h5 => ?_) hm
    all_goals first
      | (rw [zw_nc (by decide), zw_nc (by decide)]; done)
      | (rw [zw_nk (by decide), zw_nk (by decide)]; done)
      | skip
    · rw [zw_nk (by decide), zw_nk (by decide), tn _ (by omega)]; exact s3
    · rw [zw_nk (by decide), zw_nk (by decide), tn _ (by omega)]; exact s4
    · rw [zw_nk (by decide), zw_eq, hon]
    · rw [zw_eq, te]
    · rw [zw_nc (by decide), zw_nc (by decide), tn _ (by omega)]; exact (s8 i hi).2.2
    · rw [zw_nc (by decide), zw_nc (by decide), tn _ (by omega)]; exact (s9 i hi).2.2
  obtain ⟨M1, e1, f1, hs1, hm1, M1', e2, hm2, fin⟩ := zact (d := d) (by omega) hI hA hW' (by omega) ((zFr.rf.w (by decide)).w (by decide)) hx
  have e1' : (zenv zbt d).2.2 0 [.ref 49, .int 2, .int (nI c), .int 0] (zw (zw M 20 5 (nI (zdif (zon S) (2 ^ c)))) 20 6 (nI (S 25 ||| 2 ^ c))) = some M1 := e1
  have hon2 := hW'.on
  have h72 : ∀ k, k < 41 → (zw M1' 72 25 (nI (S 25 ||| 2 ^ c))).1 72 k = nI (T k) := fun k hk => by
    by_cases q : k = 25
    · rw [q, zw_eq, te]
    · rw [zw_nk q, tn k q]; exact hm2.1 k hk
  have hI2 := fin _ (zFr.rf.w (by decide)) h72
  refine ⟨nI (zpop (zon T)), M1, zw M1' 72 25 (nI (S 25 ||| 2 ^ c)), T, ?_, ?_, hI2⟩
  · apply c_X7_spoil
    apply zL_of; rw [e_X7_spoil_0, s_isCellC (by omega) hI, Option.bind_some]
    dsimp only
    rw [zbi_t hz, if_neg zn10, s_isOn (by omega) (Or.inl rfl) hI.wf hI.sh (by omega), Option.bind_some]
    dsimp only
    rw [zbi_t ht, if_neg zn10, s_lose (by omega) (Or.inl rfl) hI.wf hI.sh (by omega), Option.bind_some, e1', Option.bind_some, hs1.2.2.2.2.2.1, s_bitCount (by omega) hon2, Option.bind_some]; rfl
  · apply c_X8_spoil
    apply zL_of; rw [e_X8_spoil_0, s_isCellN (by omega) hI.wf hm1, Option.bind_some]
    dsimp only
    rw [zbi_t hz, if_neg zn10, s_on (by omega) hI.wf hm1, Option.bind_some]
    dsimp only
    rw [s_has (by omega) (by omega) (by omega), Option.bind_some]
    dsimp only
    rw [zbi_t ht, if_neg zn10, e2, Option.bind_some, hm2.1 25 (by decide), show zshl 1 (nI c) = nI (2 ^ c) from zshl1 (by omega), zor, s_on (by omega) hW' hI2.md, Option.bind_some]
    dsimp only
    rw [s_ones (by omega) (by omega), Option.bind_some]; rfl
end ZX30

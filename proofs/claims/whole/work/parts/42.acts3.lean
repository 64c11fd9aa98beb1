/-! serve, bringBack, undo -/
section ZX31
variable {d : Nat} {M : ZM} {S T : Nat → Nat}
theorem zheld_bit {s i : Nat} (h : zheld S s = true) (hi : s.testBit i = true) : (zon S).testBit i = true := by
  unfold zheld at h
  have h0 : zdif s (zon S) = 0 := by simpa using h
  exact zdif_0.mp h0 i hi
theorem zwf.sold (hW : zwf S) {w p : Nat} (hw : w < S 2) (hh : zheld S p = true) (hp : T (26 + w) = p) (h : ∀ k, k ≠ 26 + w → k ≠ 24 → T k = S k) : zwf T := by
  have hm := hW.m
  have hn := hW.n
  have hdis : ∀ e, e < 5 → e ≠ w → p &&& S (26 + e) = 0 := fun e he hne => by
    apply Nat.eq_of_testBit_eq
    intro i
    rw [Nat.testBit_and, Nat.zero_testBit]
    cases hb : p.testBit i
    · rfl
    · rw [(zon_iff.mp (zheld_bit hh hb)).2.2 e he]; rfl
  refine hW.mk' (fun k hk => h k (by omega) (by omega)) (fun e he => ?_) ?_ ?_ (fun e he => ?_) (fun e e' he he' hne => ?_) (fun e he => ?_)
  · rw [h _ (by omega) (by omega)]; exact (hW.2.2.2.1 e he).2.2
  · rw [h _ (by omega) (by omega)]; exact hW.2.2.2.2.1
  · rw [h _ (by omega) (by omega)]; exact hW.2.2.2.2.2.2.1
  · by_cases q : e = w
    · rw [q, hp]; exact ⟨zheld_lt hh, fun z => by omega⟩
    · rw [h _ (by omega) (by omega)]; exact hW.2.2.2.2.2.2.2.1 e he
  · by_cases q : e = w
    · rw [q, hp, h _ (by omega) (by omega)]
      exact hdis e' he' (by omega)
    · by_cases q' : e' = w
      · rw [q', hp, h _ (by omega) (by omega), Nat.and_comm]
        exact hdis e he q
      · rw [h _ (by omega) (by omega), h _ (by omega) (by omega)]; exact hW.2.2.2.2.2.2.2.2.1 e e' he he' hne
  · rw [h 25 (by omega) (by omega)]
    by_cases q : e = w
    · rw [q, hp]
      apply Nat.eq_of_testBit_eq
      intro i
      rw [Nat.testBit_and, Nat.zero_testBit]
      cases hb : p.testBit i
      · rfl
      · rw [(zon_iff.mp (zheld_bit hh hb)).2.1]; rfl
    · rw [h _ (by omega) (by omega)]; exact hW.2.2.2.2.2.2.2.2.2 e he
theorem zwf.taken (hW : zwf S) {w : Nat} (hw : w < 5) (hp : T (26 + w) = 0) (h : ∀ k, k ≠ 26 + w → T k = S k) : zwf T := by
  have hm := hW.m
  have hn := hW.n
  refine hW.mk' (fun k hk => h k (by omega)) (fun e he => ?_) ?_ ?_ (fun e he => ?_) (fun e e' he he' hne => ?_) (fun e he => ?_)
  · rw [h _ (by omega)]; exact (hW.2.2.2.1 e he).2.2
  · rw [h _ (by omega)]; exact hW.2.2.2.2.1
  · rw [h _ (by omega)]; exact hW.2.2.2.2.2.2.1
  · by_cases q : e = w
    · rw [q, hp]; exact ⟨Nat.two_pow_pos _, fun _ => rfl⟩
    · rw [h _ (by omega)]; exact hW.2.2.2.2.2.2.2.1 e he
  · by_cases q : e = w
    · rw [q, hp, Nat.zero_and]
    · by_cases q' : e' = w
      · rw [q', hp, Nat.and_zero]
      · rw [h _ (by omega), h _ (by omega)]; exact hW.2.2.2.2.2.2.2.2.1 e e' he he' hne
  · by_cases q : e = w
    · rw [q, hp, Nat.zero_and]
    · rw [h _ (by omega), h _ (by omega)]; exact hW.2.2.2.2.2.2.2.2.2 e he
theorem a_bringBack (hI : zInv S M) (x : Int32) : zAl 89 182 [.int x] M := by
  intro d hd
  obtain ⟨d, rfl⟩ : ∃ e, d = e + 1 := ⟨d - 1, by omega⟩
  have hn := hI.wf.n
  have hm := hI.wf.m
  cases hz : zin x (S 2)
  · refine ⟨-1000001, M, M, S, ?_, ?_, hI⟩
    · apply c_X7_bringBack
      apply zL_of; rw [e_X7_bringBack_0, s_isCustC (by omega) hI, Option.bind_some]
      dsimp only
      rw [hz, zbi_f (by decide), if_pos rfl]; rfl
    · apply c_X8_bringBack
      apply zL_of; rw [e_X8_bringBack_0, s_isCustM (by omega) hI, Option.bind_some]
      dsimp only
      rw [hz, zbi_f (by decide), if_pos rfl]; rfl
  obtain ⟨w, hw, rfl⟩ := (zin_iff (by omega)).mp hz
  have e26 : (26 : Int32) + nI w = nI (26 + w) := nI_add 26 w
  have hpc := hI.wf.pc (c := w) (by omega)
  by_cases h0 : S (26 + w) = 0
  · refine ⟨-1000002, M, M, S, ?_, ?_, hI⟩
    · apply c_X7_bringBack
      apply zL_of; rw [e_X7_bringBack_0, s_isCustC (by omega) hI, Option.bind_some]
      dsimp only
      rw [zbi_t hz, if_neg zn10, s_isServed (by omega) (Or.inl rfl) hI.wf hI.sh hw, Option.bind_some]
      dsimp only
      rw [zbi_f (fun q => q h0), if_pos rfl]; rfl
    · apply c_X8_bringBack
      apply zL_of; rw [e_X8_bringBack_0, s_isCustM (by omega) hI, Option.bind_some]
      dsimp only
      rw [zbi_t hz, if_neg zn10, e26, zck_t (zinN (by omega) (by decide)), hI.md.at (by omega), h0, if_pos (by decide)]; rfl
  obtain ⟨T, hT⟩ : ∃ T : Nat → Nat, T = fun k => if k = 26 + w then 0 else S k := ⟨_, rfl⟩
  have tn : ∀ k, k ≠ 26 + w → T k = S k := fun k hk => by rw [hT]; dsimp only; rw [if_neg hk]
  have te : T (26 + w) = 0 := by rw [hT]; dsimp only; rw [if_pos rfl]
  have hW' : zwf T := hI.wf.taken (by omega) te tn
  have hA : zAct 1 w (S (26 + w)) S T := Or.inr (Or.inl ⟨rfl, hw, rfl, h0, te, tn⟩)
  have hon : zon T = zon S ||| S (26 + w) := zon_take hI.wf (by omega) te (fun k hk _ => tn k hk)
  have hx : zSheet T 20 (zw (zw M 20 5 (nI (zon S ||| S (26 + w)))) (20 + 6) w 0) := by
    obtain ⟨s0, s1, s2, s3, s4, s5, s6, s7, s8, s9⟩ := hI.sh
    refine hI.sh.mk' hn (fun k hk => tn k (by omega)) ?_ ?_ ?_ ?_ ?_ ?_ ?_ ?_ ?_ ?_ ?_ ?_ (fun i hi => ?_) (fun i hi h5 => ?_) hm
    all_goals first
      | (rw [zw_nc (by decide), zw_nc (by decide)]; done)
      | (rw [zw_nc (by decide), zw_nk (by decide)]; done)
      | skip
    · rw [zw_nc (by decide), zw_nk (by decide), tn _ (by omega)]; exact s3
    · rw [zw_nc (by decide), zw_nk (by decide), tn _ (by omega)]; exact s4
    · rw [zw_nc (by decide), zw_eq, hon]
    · rw [zw_nc (by decide), zw_nk (by decide), tn _ (by omega)]; exact s6
    · rw [zw_nc (by decide), zw_nc (by decide), tn _ (by omega)]; exact (s8 i hi).2.2
    · by_cases q : i = w
      · rw [q, zw_eq, te]; rfl
      · rw [zw_nk q, zw_nc (by decide), tn _ (by omega)]; exact (s9 i hi).2.2
  obtain ⟨M1, e1, f1, hs1, hm1, M1', e2, hm2, fin⟩ := zact (d := d) (by omega) hI hA hW' (by omega) ((zFr.rf.w (by decide)).w (by decide)) hx
  have e1' : (zenv zbt d).2.2 0 [.ref 49, .int 1, .int (nI w), .int (nI (S (26 + w)))] (zw (zw M 20 5 (nI (zon S ||| S (26 + w)))) (20 + 6) w 0) = some M1 := e1
  have hpay : zpay T (S (26 + w)) = zpay S (S (26 + w)) := by
    unfold zpay
    rw [tn 0 (by omega)]
    refine zsum_congr (fun i hi => ?_)
    unfold zone
    rw [tn (3 + i) (by omega), tn (31 + i) (by omega), tn 23 (by omega), tn 0 (by omega), tn 1 (by omega), zair_cg hn (fun k hk => tn k (by omega))]
  refine ⟨nI (zpay S (S (26 + w))), M1, zw M1' 72 (26 + w) 0, T, ?_, ?_, fin _ (zFr.rf.w (by decide)) (fun k hk => ?_)⟩
  · apply c_X7_bringBack
    apply zL_of; rw [e_X7_bringBack_0, s_isCustC (by omega) hI, Option.bind_some]
    dsimp only
    rw [zbi_t hz, if_neg zn10, s_isServed (by omega) (Or.inl rfl) hI.wf hI.sh hw, Option.bind_some]
    dsimp only
    rw [zbi_t h0, if_neg zn10, zck_t (zinN (by omega) (by decide)), zcN (by omega), (hI.sh.2.2.2.2.2.2.2.2.2 w hw).2.2, s_takeBack (by omega) (Or.inl rfl) hI.wf hI.sh hw, Option.bind_some, e1', Option.bind_some, s_paysOf (by omega) (Or.inl rfl) hW' hs1 hpc, Option.bind_some, hpay]; rfl
  · apply c_X8_bringBack
    apply zL_of; rw [e_X8_bringBack_0, s_isCustN (by omega) hI.wf hm1, Option.bind_some]
    dsimp only
    rw [zbi_t hz, if_neg zn10, e26, zck_t (zinN (by omega) (by decide)), hm1.at (by omega), if_neg (nI_ne0 (by omega) (by omega)), e2, Option.bind_some, zck_t (zinN (by omega) (by decide)), hm2.at (by omega), s_pays (by omega) hI.wf hm2 hpc, Option.bind_some, zck_t (zinN (by omega) (by decide)), zcN (by omega)]; rfl
  · by_cases q : k = 26 + w
    · rw [q, zw_eq, te]; rfl
    · rw [zw_nk q, tn k q]; exact hm2.1 k hk
theorem a_serve (hI : zInv S M) (x y : Int32) : zAl 88 181 [.int x, .int y] M := by
  intro d hd
  obtain ⟨d, rfl⟩ : ∃ e, d = e + 1 := ⟨d - 1, by omega⟩
  have hn := hI.wf.n
  have hm := hI.wf.m
  cases hz : zin x (S 2)
  · refine ⟨-1000001, M, M, S, ?_, ?_, hI⟩
    · apply c_X7_serve
      apply zL_of; rw [e_X7_serve_0, s_isCustC (by omega) hI, Option.bind_some]
      dsimp only
      rw [hz, zbi_f (by decide), if_pos rfl]; rfl
    · apply c_X8_serve
      apply zL_of; rw [e_X8_serve_0, s_isCustM (by omega) hI, Option.bind_some]
      dsimp only
      rw [hz, zbi_f (by decide), if_pos rfl]; rfl
  cases hy : zpc S y
  · refine ⟨-1000001, M, M, S, ?_, ?_, hI⟩
    · apply c_X7_serve
      apply zL_of; rw [e_X7_serve_0, s_isCustC (by omega) hI, Option.bind_some]
      dsimp only
      rw [zbi_t hz, if_neg zn10, s_isPieceC (by omega) (Or.inl rfl) hI.wf hI.sh hI.fi, Option.bind_some]
      dsimp only
      rw [hy, zbi_f (by decide), if_pos rfl]; rfl
    · apply c_X8_serve
      apply zL_of; rw [e_X8_serve_0, s_isCustM (by omega) hI, Option.bind_some]
      dsimp only
      rw [zbi_t hz, if_neg zn10, s_isPieceM (by omega) hI.wf hI.md, Option.bind_some]
      dsimp only
      rw [hy, zbi_f (by decide), if_pos rfl]; rfl
  obtain ⟨w, hw, rfl⟩ := (zin_iff (by omega)).mp hz
  obtain ⟨p, hp, hp0, rfl, hh, hg⟩ := zpc_of hy
  have hp10 : p < 1024 := Nat.lt_of_lt_of_le hp (zpow10 hn)
  have e26 : (26 : Int32) + nI w = nI (26 + w) := nI_add 26 w
  have e13 : (13 : Int32) + nI w = nI (13 + w) := nI_add 13 w
  have e18 : (18 : Int32) + nI w = nI (18 + w) := nI_add 18 w
  have hpc := hI.wf.pc (c := w) (by omega)
  have hpay := hI.wf.pay p
  have htr := hI.wf.tear (zon S) p
  have hlm := hI.wf.2.2.2.2.2.1 w hw
  by_cases h0 : S (26 + w) ≠ 0
  · refine ⟨-1000002, M, M, S, ?_, ?_, hI⟩
    · apply c_X7_serve
      apply zL_of; rw [e_X7_serve_0, s_isCustC (by omega) hI, Option.bind_some]
      dsimp only
      rw [zbi_t hz, if_neg zn10, s_isPieceC (by omega) (Or.inl rfl) hI.wf hI.sh hI.fi, Option.bind_some]
      dsimp only
      rw [zbi_t hy, if_neg zn10, s_isServed (by omega) (Or.inl rfl) hI.wf hI.sh hw, Option.bind_some]
      dsimp only
      rw [zbi_t h0, if_neg zn10]; rfl
    · apply c_X8_serve
      apply zL_of; rw [e_X8_serve_0, s_isCustM (by omega) hI, Option.bind_some]
      dsimp only
      rw [zbi_t hz, if_neg zn10, s_isPieceM (by omega) hI.wf hI.md, Option.bind_some]
      dsimp only
      rw [zbi_t hy, if_neg zn10, e26, zck_t (zinN (by omega) (by decide)), hI.md.at (by omega), if_pos (show (0 : Int32) < nI (S (26 + w)) from nI_lt (show 0 < S (26 + w) by omega) (by omega))]; rfl
  have h0 : S (26 + w) = 0 := Decidable.of_not_not h0
  by_cases hf : ¬ (S (13 + w) ≤ zpay S p ∧ zpay S p ≤ S (18 + w))
  · refine ⟨-1000002, M, M, S, ?_, ?_, hI⟩
    · apply c_X7_serve
      apply zL_of; rw [e_X7_serve_0, s_isCustC (by omega) hI, Option.bind_some]
      dsimp only
      rw [zbi_t hz, if_neg zn10, s_isPieceC (by omega) (Or.inl rfl) hI.wf hI.sh hI.fi, Option.bind_some]
      dsimp only
      rw [zbi_t hy, if_neg zn10, s_isServed (by omega) (Or.inl rfl) hI.wf hI.sh hw, Option.bind_some]
      dsimp only
      rw [zbi_f (fun q => q h0), if_pos rfl, s_paysOf (by omega) (Or.inl rfl) hI.wf hI.sh hp10, Option.bind_some]
      dsimp only
      rw [s_suits (by omega) (Or.inl rfl) hI.wf hI.sh hw (by omega), Option.bind_some]
      dsimp only
      rw [zbi_f hf, if_pos rfl]; rfl
    · apply c_X8_serve
      apply zL_of; rw [e_X8_serve_0, s_isCustM (by omega) hI, Option.bind_some]
      dsimp only
      rw [zbi_t hz, if_neg zn10, s_isPieceM (by omega) hI.wf hI.md, Option.bind_some]
      dsimp only
      rw [zbi_t hy, if_neg zn10, e26, zck_t (zinN (by omega) (by decide)), hI.md.at (by omega), h0, if_neg (by decide), s_pays (by omega) hI.wf hI.md hp10, Option.bind_some, e13, e18, zck_t (zinN (by omega) (by decide)), zck_t (zinN (by omega) (by decide)), hI.md.at (by omega), hI.md.at (by omega), s_in (by omega), Option.bind_some]
      dsimp only
      rw [zbi_f (fun q => hf ⟨(nI_leI (by omega) (by omega)).mp q.1, (nI_leI (by omega) (by omega)).mp q.2⟩), if_pos rfl]; rfl
  have hf := Decidable.of_not_not hf
  obtain ⟨T, hT⟩ : ∃ T : Nat → Nat, T = fun k => if k = 26 + w then p else if k = 24 then S 24 + ztear S (zon S) p else S k := ⟨_, rfl⟩
  have tn : ∀ k, k ≠ 26 + w → k ≠ 24 → T k = S k := fun k hk h2 => by rw [hT]; dsimp only; rw [if_neg hk, if_neg h2]
  have te : T (26 + w) = p := by rw [hT]; dsimp only; rw [if_pos rfl]
  have t24 : T 24 = S 24 + ztear S (zon S) p := by rw [hT]; dsimp only; rw [if_neg (by omega), if_pos rfl]
  have hW' : zwf T := hI.wf.sold hw hh te tn
  have hA : zAct 0 w (ztear S (zon S) p) S T := Or.inl ⟨rfl, hw, h0, by omega, t24, tn⟩
  have hon : zon T = zdif (zon S) p := zon_sell (by omega) h0 te tn
  have hx : zSheet T 20 (zw (zw (zw M (20 + 6) w (nI p)) 20 5 (nI (zdif (zon S) p))) 20 4 (nI (S 24 + ztear S (zon S) p))) := by
    obtain ⟨s0, s1, s2, s3, s4, s5, s6, s7, s8, s9⟩ := hI.sh
    refine hI.sh.mk' hn (fun k hk => tn k (by omega) (by omega)) ?_ ?_ ?_ ?_ ?_ ?_ ?_ ?_ ?_ ?_ ?_ ?_ (fun i hi => ?_) (fun i hi h5 => ?_) hm
    all_goals first
      | (rw [zw_nc (by decide), zw_nc (by decide), zw_nc (by decide)]; done)
      | (rw [zw_nk (by decide), zw_nk (by decide), zw_nc (by decide)]; done)
      | skip
    · rw [zw_nk (by decide), zw_nk (by decide), zw_nc (by decide), tn _ (by omega) (by omega)]; exact s3
    · rw [zw_eq, t24]
    · rw [zw_nk (by decide), zw_eq, hon]
    · rw [zw_nk (by decide), zw_nk (by decide), zw_nc (by decide), tn _ (by omega) (by omega)]; exact s6
    · rw [zw_nc (by decide), zw_nc (by decide), zw_nc (by decide), tn _ (by omega) (by omega)]; exact (s8 i hi).2.2
    · rw [zw_nc (by decide), zw_nc (by decide)]
      by_cases q : i = w
      · rw [q, zw_eq, te]
      · rw [zw_nk q, tn _ (by omega) (by omega)]; exact (s9 i hi).2.2
  obtain ⟨M1, e1, f1, hs1, hm1, M1', e2, hm2, fin⟩ := zact (d := d) (by omega) hI hA hW' (by omega) (((zFr.rf.w (by decide)).w (by decide)).w (by decide)) hx
  have e1' : (zenv zbt d).2.2 0 [.ref 49, .int 0, .int (nI w), .int (nI (ztear S (zon S) p))] (zw (zw (zw M (20 + 6) w (nI p)) 20 5 (nI (zdif (zon S) p))) 20 4 (nI (S 24 + ztear S (zon S) p))) = some M1 := e1
  have esv : (zenv zbt d).2.2 180 [.ref 66, .int (nI w), .int (nI p)] M1' = some (zw (zw M1' 72 24 (nI (S 24 + ztear S (zon S) p))) 72 (26 + w) (nI p)) := by
    obtain ⟨d, rfl⟩ : ∃ e, d = e + 1 := ⟨d - 1, by omega⟩
    apply c_X8_serves
    apply zL_of; rw [e_X8_serves_0, s_mtears (by omega) hI.wf hm2 hp10, Option.bind_some, e26, zck_t (zinN (by omega) (by decide)), hm2.1 24 (by decide), zcN (by omega), nI_add]; rfl
  refine ⟨nI (ztear S (zon S) p), M1, zw (zw M1' 72 24 (nI (S 24 + ztear S (zon S) p))) 72 (26 + w) (nI p), T, ?_, ?_, fin _ ((zFr.rf.w (by decide)).w (by decide)) (fun k hk => ?_)⟩
  · apply c_X7_serve
    apply zL_of; rw [e_X7_serve_0, s_isCustC (by omega) hI, Option.bind_some]
    dsimp only
    rw [zbi_t hz, if_neg zn10, s_isPieceC (by omega) (Or.inl rfl) hI.wf hI.sh hI.fi, Option.bind_some]
    dsimp only
    rw [zbi_t hy, if_neg zn10, s_isServed (by omega) (Or.inl rfl) hI.wf hI.sh hw, Option.bind_some]
    dsimp only
    rw [zbi_f (fun q => q h0), if_pos rfl, s_paysOf (by omega) (Or.inl rfl) hI.wf hI.sh hp10, Option.bind_some]
    dsimp only
    rw [s_suits (by omega) (Or.inl rfl) hI.wf hI.sh hw (by omega), Option.bind_some]
    dsimp only
    rw [zbi_t hf, if_neg zn10, s_tearsOf (by omega) (Or.inl rfl) hI.wf hI.sh hp10, Option.bind_some]
    dsimp only
    rw [s_sell (by omega) (Or.inl rfl) hI.wf hI.sh hw, Option.bind_some, e1', Option.bind_some]; rfl
  · apply c_X8_serve
    apply zL_of; rw [e_X8_serve_0, s_isCustN (by omega) hI.wf hm1, Option.bind_some]
    dsimp only
    rw [zbi_t hz, if_neg zn10, s_isPieceM (by omega) hI.wf hm1, Option.bind_some]
    dsimp only
    rw [zbi_t hy, if_neg zn10, e26, zck_t (zinN (by omega) (by decide)), hm1.at (by omega), h0, if_neg (by decide), s_pays (by omega) hI.wf hm1 hp10, Option.bind_some, e13, e18, zck_t (zinN (by omega) (by decide)), zck_t (zinN (by omega) (by decide)), hm1.at (by omega), hm1.at (by omega), s_in (by omega), Option.bind_some]
    dsimp only
    rw [zbi_t ⟨nI_le hf.1 (by omega), nI_le hf.2 (by omega)⟩, if_neg zn10, e2, Option.bind_some, s_mtears (by omega) hI.wf hm2 hp10, Option.bind_some]
    dsimp only
    rw [esv, Option.bind_some]; rfl
  · by_cases q : k = 26 + w
    · rw [q, zw_eq, te]
    · rw [zw_nk q]
      by_cases q2 : k = 24
      · rw [q2, zw_eq, t24]
      · rw [zw_nk q2, tn k q q2]; exact hm2.1 k hk
end ZX31

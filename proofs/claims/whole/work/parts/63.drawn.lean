/-! drawn -/
def zxs (x : Nat) : Nat → Nat
  | 0 => x
  | i + 1 => zxs x i * 16807 % 2147483647
def zTs (S : Nat → Nat) (x : Nat) : Nat → Nat → Nat
  | 0 => S
  | i + 1 => zday (zTs S x i) (zxs x (i + 1))
section ZX53
variable {d : Nat} {M : ZM} {S T : Nat → Nat}
theorem zxs_lt {x : Nat} (hx : x < 2 ^ 31) : ∀ i, zxs x i < 2 ^ 31
  | 0 => hx
  | i + 1 => by
    have : zxs x i * 16807 % 2147483647 < 2147483647 := Nat.mod_lt _ (by decide)
    show zxs x i * 16807 % 2147483647 < 2 ^ 31
    omega
theorem zxm {x : Nat} (hx : x < 2 ^ 31) (i : Nat) : zlrem (lN (zxs x i) * 16807) 2147483647 = lN (zxs x (i + 1)) := by
  have h := zxs_lt hx i
  rw [show (16807 : Int64) = lN 16807 from rfl, lN_mul]
  exact pk_lRem (b := 2147483647) (by omega) (by decide) (by decide)
theorem zTs_ok (hW : zwf S) (x : Nat) : ∀ i, zwf (zTs S x i) ∧ ∀ k, k < 24 ∨ 31 ≤ k → zTs S x i k = S k
  | 0 => ⟨hW, fun _ _ => rfl⟩
  | i + 1 => by
    obtain ⟨h1, h2⟩ := zTs_ok hW x i
    refine ⟨h1.day _, fun k hk => ?_⟩
    show zday (zTs S x i) (zxs x (i + 1)) k = S k
    rw [zday_keep h1 _ hk, h2 k hk]
theorem l_drawnC (hd : 6 ≤ d) (hW : zwf S) (hp : 0 < S 0) (hF : zFin S M) (hP : ∀ i x, (zHL S)[i]? = some x → M.1 56 i = nI (zpay S x)) {x n : Nat} (hx : x < 2 ^ 31) (hn : n ≤ 60) (y : Int32) : ∀ i, i ≤ n → ∀ Mk, zFr [27, 33] M Mk → zSheet (zTs S x i) 27 Mk → ∃ M', zL (zenv zbt d) tb_X7_drawn cu_X7_drawn 71 [some (.ref 0), some (.int (nI n)), none, some (.int y), some (.long (lN (zxs x i))), none, some (.int (nI i))] [] Mk (some (.int (if y = 0 then nI (zserved (zTs S x n)) else nI (zTs S x n 24))), M') ∧ zFr [27, 33] M M' := by
  apply zup
  · intro Mk hf hSk
    refine ⟨Mk, ?_, hf⟩
    apply zL_of; rw [e_X7_drawn_71, if_pos (nI_le (Nat.le_refl _) (by omega)), s_served (by omega) (Or.inr rfl) (zTs_ok hW x n).1 hSk, Option.bind_some, hSk.2.2.2.2.1]
    by_cases q : y = 0
    · rw [if_pos q, if_pos q]; rfl
    · rw [if_neg q, if_neg q]; rfl
  · intro i hi ih Mk hf hSk
    obtain ⟨w1, w2⟩ := zTs_ok hW x i
    have hxl := zxs_lt hx (i + 1)
    have hL : zHL S = zHL (zTs S x i) := (zHL_cg (w2 0 (by omega)) (w2 1 (by omega))).symm
    obtain ⟨M2, e2, f2, g2⟩ := s_liveDay (d := d) (S := zTs S x i) (by omega) (Or.inr rfl) w1 (by rw [w2 0 (by omega)]; exact hp) hSk hL (hF.fr hf (by decide) (by decide) (by decide)) (fun j z hz => by
      rw [← hL] at hz
      rw [(hf 56 (by decide)).1, zpay_cg hW.n w2]
      exact hP j z hz) (x := zxs x (i + 1)) (by omega)
    obtain ⟨M', h1, h2⟩ := ih M2 (hf.trans (f2.mono (by decide))) g2
    refine ⟨M', ?_, h2⟩
    apply zL_of; rw [e_X7_drawn_71, if_neg (nI_ge hi (by omega)), zxm hx, e2, Option.bind_some, nI_1]
    exact zPo_go h1
theorem l_drawnR (hS40 : ∀ e, e < 18 → M.1 82 e = nI (S (23 + e))) (v : Int32) : ∀ j, j ≤ 18 → ∀ Mk, zFr [72] M Mk → (∀ k, k < 23 + j → Mk.1 72 k = nI (S k)) → ∃ M', zL (zenv zbt d) tb_X8_drawn cu_X8_drawn 141 [some (.ref 66), none, none, none, none, none, some (.int v), some (.int (nI j))] [] Mk (some (.int v), M') ∧ zFr [72] M M' ∧ ∀ k, k < 41 → M'.1 72 k = nI (S k) := by
  apply zup
  · intro Mk hf hk
    refine ⟨Mk, ?_, hf, hk⟩
    apply zL_of; rw [e_X8_drawn_141, if_pos (by decide)]; rfl
  · intro j hj ih Mk hf hk
    obtain ⟨M', h1, h2⟩ := ih (zw Mk 72 (23 + j) (nI (S (23 + j)))) (hf.w (by decide)) (fun k hk2 => by
      by_cases q : k = 23 + j
      · rw [q, zw_eq]
      · rw [zw_nk q]; exact hk k (by omega))
    refine ⟨M', ?_, h2⟩
    apply zL_of; rw [e_X8_drawn_141, if_neg (show ¬ ((18 : Int32) ≤ nI j) from nI_ge hj (by decide)), zck_t (zinN hj (by decide)), show (23 : Int32) + nI j = nI (23 + j) from nI_add 23 j, zck_t (zinN (by omega) (by decide)), zcN (by omega), zcN (by omega), (hf 82 (by decide)).1, hS40 j hj, nI_1]
    exact zPo_go h1
theorem l_drawnM (hd : 6 ≤ d) (hW : zwf S) (hp : 0 < S 0) (hB : zSv S M) (hM0 : zMod S M) (hS40 : ∀ e, e < 18 → M.1 82 e = nI (S (23 + e))) {x n : Nat} (hx : x < 2 ^ 31) (hn : n ≤ 60) (y : Int32) : ∀ i, i ≤ n → ∀ Mk, zFr [72] M Mk → zMod (zTs S x i) Mk → ∃ M', zL (zenv zbt d) tb_X8_drawn cu_X8_drawn 88 [some (.ref 66), some (.int (nI n)), none, some (.int y), some (.long (lN (zxs x i))), none, some (.int (nI i)), none] [] Mk (some (.int (if y = 0 then nI (zserved (zTs S x n)) else nI (zTs S x n 24))), M') ∧ zFr [72] M M' ∧ zMod S M' := by
  apply zup
  · intro Mk hf hMk
    obtain ⟨w1, w2⟩ := zTs_ok hW x n
    obtain ⟨M', h1, h2, h3⟩ := l_drawnR (d := d) hS40 (if y = 0 then nI (zserved (zTs S x n)) else nI (zTs S x n 24)) 0 (by omega) Mk hf (fun k hk => by rw [hMk.1 k (by omega), w2 k (by omega)])
    refine ⟨M', ?_, h2, h3, fun c hc => by rw [(h2 74 (by decide)).1]; exact hM0.2 c hc⟩
    apply zL_of; rw [e_X8_drawn_88, if_pos (nI_le (Nat.le_refl _) (by omega)), s_servedNow (by omega) w1 hMk, Option.bind_some, hMk.1 24 (by decide)]
    by_cases q : y = 0
    · rw [if_pos q] at h1
      rw [if_pos q, if_pos q]
      exact zPo_go h1
    · rw [if_neg q] at h1
      rw [if_neg q, if_neg q]
      exact zPo_go h1
  · intro i hi ih Mk hf hMk
    obtain ⟨w1, w2⟩ := zTs_ok hW x i
    have hxl := zxs_lt hx (i + 1)
    have hB2 : zSv (zTs S x i) Mk := fun s hs => by
      rw [w2 0 (by omega)] at hs
      rw [(hf 78 (by decide)).2, hB s hs, zhang_cg (w2 0 (by omega)) (w2 1 (by omega)), zpay_cg hW.n w2]
    obtain ⟨M2, e2, f2, g2⟩ := s_day (d := d) (S := zTs S x i) (by omega) w1 (by rw [w2 0 (by omega)]; exact hp) hMk hB2 (x := zxs x (i + 1)) (by omega)
    obtain ⟨M', h1, h2⟩ := ih M2 (hf.trans f2) g2
    refine ⟨M', ?_, h2⟩
    apply zL_of; rw [e_X8_drawn_88, if_neg (nI_ge hi (by omega)), zxm hx, e2, Option.bind_some, nI_1]
    exact zPo_go h1
theorem l_drawnH (hM : zMod S M) (x1 x2 y : Int32) {res : ZM → Prop} {r : Option Value} (hend : ∀ Mk, zFr [82] M Mk → (∀ e, e < 18 → Mk.1 82 e = nI (S (23 + e))) → ∃ M', zL (zenv zbt d) tb_X8_drawn cu_X8_drawn 88 [some (.ref 66), some (.int x1), none, some (.int y), some (.long (Int32.toInt64 x2)), none, some (.int 0), none] [] Mk (r, M') ∧ res M') : ∀ j, j ≤ 18 → ∀ Mk, zFr [82] M Mk → (∀ e, e < j → Mk.1 82 e = nI (S (23 + e))) → ∃ M', zL (zenv zbt d) tb_X8_drawn cu_X8_drawn 51 [some (.ref 66), some (.int x1), some (.int x2), some (.int y), some (.int (nI j)), none, none, none] [] Mk (r, M') ∧ res M' := by
  apply zup
  · intro Mk hf hv
    obtain ⟨M', h1, h2⟩ := hend Mk hf hv
    refine ⟨M', ?_, h2⟩
    apply zL_of; rw [e_X8_drawn_51, if_pos (by decide)]
    exact zPo_go h1
  · intro j hj ih Mk hf hv
    obtain ⟨M', h1, h2⟩ := ih (zw Mk 82 j (nI (S (23 + j)))) (hf.w (by decide)) (fun e he => by
      by_cases q : e = j
      · rw [q, zw_eq]
      · rw [zw_nk q]; exact hv e (by omega))
    refine ⟨M', ?_, h2⟩
    apply zL_of; rw [e_X8_drawn_51, if_neg (show ¬ ((18 : Int32) ≤ nI j) from nI_ge hj (by decide)), show (23 : Int32) + nI j = nI (23 + j) from nI_add 23 j, zck_t (zinN (by omega) (by decide)), zck_t (zinN hj (by decide)), zcN (by omega), zcN (by omega), (hf 72 (by decide)).1, hM.1 (23 + j) (by omega), nI_1]
    exact zPo_go h1
theorem zInv.up72s {M' : ZM} (hI : zInv S M) (hf : zFr (72 :: zScr) M M') (hM : zMod S M') : zInv S M' := by
  have h1 : zFr zScr M (fun c => if c = 72 then M.1 72 else M'.1 c, fun c => if c = 72 then M.2 72 else M'.2 c) := fun c hc => by
    by_cases q : c = 72
    · subst q
      exact ⟨rfl, rfl⟩
    · have := hf c (by rw [List.mem_cons]; exact fun z => z.elim q hc)
      exact ⟨by show (if c = 72 then M.1 72 else M'.1 c) = _; rw [if_neg q]; exact this.1, by show (if c = 72 then M.2 72 else M'.2 c) = _; rw [if_neg q]; exact this.2⟩
  exact (hI.fr h1).up72 (fun c hc => by
    have q : c ≠ 72 := fun e => hc (by simp [e])
    exact ⟨by show _ = (if c = 72 then M.1 72 else M'.1 c); rw [if_neg q], by show _ = (if c = 72 then M.2 72 else M'.2 c); rw [if_neg q]⟩) hM
theorem z1to {x : Int32} (h : (1 : Int32) ≤ x ∧ x ≤ 999999) : ∃ k, k ≤ 999999 ∧ x = nI k := zi_of (n := 999999) (by decide) (Int32.le_trans (by decide) h.1) h.2
theorem a_drawn (hI : zInv S M) (x1 x2 y : Int32) : zAl 111 219 [.int x1, .int x2, .int y] M := by
  intro d hd
  obtain ⟨d, rfl⟩ : ∃ e, d = e + 1 := ⟨d - 1, by omega⟩
  have hn := hI.wf.n
  by_cases h0 : S 0 = 0
  · refine ⟨-1000002, M, M, S, ?_, ?_, hI⟩
    · apply c_X7_drawn
      apply zL_of; rw [e_X7_drawn_0, s_isThereC (by omega) hI, Option.bind_some]
      dsimp only
      rw [zbi_f (fun q => q h0), if_pos rfl]; rfl
    · apply c_X8_drawn
      apply zL_of; rw [e_X8_drawn_0, hI.md.1 0 (by decide), h0, if_pos zn0]; rfl
  by_cases hg : ((0 : Int32) ≤ x1 ∧ x1 ≤ 60) ∧ ((1 : Int32) ≤ x2 ∧ x2 ≤ 999999) ∧ zin y 2 = true
  · obtain ⟨g1, g2, g3⟩ := hg
    obtain ⟨n, hn60, rfl⟩ := zi_of (n := 60) (by decide) g1.1 g1.2
    obtain ⟨x, hx, rfl⟩ := z1to g2
    obtain ⟨M1, e1, f1, s1⟩ := s_become (d := d) (b := 27) (b1 := 20) (by omega) (by unfold zbc; omega) hI.wf hI.sh
    have hI1 := hI.fr (f1.mono (by decide))
    obtain ⟨M2, e2, f2, p2⟩ := s_weigh (d := d) (by omega) (Or.inl rfl) hI.wf hI1.sh hI1.fi
    have hI2 := hI1.fr (f2.mono (by decide))
    obtain ⟨M3, e3, f3⟩ := l_drawnC (d := d) (by omega) hI.wf (by omega) hI2.fi p2 (x := x) (n := n) (by omega) hn60 y 0 (by omega) M2 zFr.rf (s1.fr f2 (fun j hj => by simp; omega))
    have hI3 := hI2.fr (f3.mono (by decide))
    obtain ⟨M4, e4, f4, p4⟩ := s_surveys (d := d) (by omega) hI.wf hI3.md
    have hI4 := hI3.fr (f4.mono (by decide))
    have hB := zSv_of hI.wf p4
    obtain ⟨M5, e5, f5, m5⟩ := l_drawnH (d := d) hI4.md (nI n) (nI x) y (res := fun M' => zFr (72 :: zScr) M4 M' ∧ zMod S M') (r := some (.int (if y = 0 then nI (zserved (zTs S x n)) else nI (zTs S x n 24)))) (fun Mk hf hv => by
      have hMk := hI4.md.fr hf (by decide) (by decide)
      obtain ⟨M', h1, h2, h3⟩ := l_drawnM (d := d) (M := Mk) (by omega) hI.wf (by omega) (fun s hs => by rw [(hf 78 (by decide)).2]; exact hB s hs) hMk hv (x := x) (n := n) (by omega) hn60 y 0 (by omega) Mk zFr.rf hMk
      refine ⟨M', ?_, (hf.mono (by decide)).trans (h2.mono (by decide)), h3⟩
      rw [nI_l (by omega)]
      exact h1) 0 (by omega) M4 zFr.rf (fun e he => by omega)
    refine ⟨if y = 0 then nI (zserved (zTs S x n)) else nI (zTs S x n 24), M3, M5, S, ?_, ?_, hI4.up72s f5 m5⟩
    · apply c_X7_drawn
      apply zL_of; rw [e_X7_drawn_0, s_isThereC (by omega) hI, Option.bind_some]
      dsimp only
      rw [zbi_t h0, if_neg zn10, if_neg (Int32.not_lt.mpr g1.1), if_neg (Int32.not_lt.mpr g1.2), if_neg (Int32.not_lt.mpr g2.1), if_neg (Int32.not_lt.mpr g2.2), s_isEitherC (by omega), Option.bind_some]
      dsimp only
      rw [g3, zbi_t rfl, if_neg zn10, e1, Option.bind_some, e2, Option.bind_some, nI_l (by omega)]
      exact zPo_go e3
    · apply c_X8_drawn
      apply zL_of; rw [e_X8_drawn_0, hI3.md.1 0 (by decide), if_neg (nI_ne0 (by omega) (by omega)), s_in (by omega), Option.bind_some]
      dsimp only
      rw [zbi_t g1, if_neg zn10, s_in (by omega), Option.bind_some]
      dsimp only
      rw [zbi_t g2, if_neg zn10, s_in (by omega), Option.bind_some, zbi_eq zgm2]
      dsimp only
      rw [g3, zbi_t rfl, if_neg zn10, e4, Option.bind_some]
      exact zPo_go e5
  · refine ⟨-1000001, M, M, S, ?_, ?_, hI⟩
    · apply c_X7_drawn
      apply zL_of; rw [e_X7_drawn_0, s_isThereC (by omega) hI, Option.bind_some]
      dsimp only
      rw [zbi_t h0, if_neg zn10]
      by_cases q1 : x1 < 0
      · rw [if_pos q1]; rfl
      rw [if_neg q1]
      by_cases q2 : 60 < x1
      · rw [if_pos q2]; rfl
      rw [if_neg q2]
      by_cases q3 : x2 < 1
      · rw [if_pos q3]; rfl
      rw [if_neg q3]
      by_cases q4 : 999999 < x2
      · rw [if_pos q4]; rfl
      rw [if_neg q4, s_isEitherC (by omega), Option.bind_some]
      dsimp only
      rw [zbi_f (fun q => hg ⟨⟨Int32.not_lt.mp q1, Int32.not_lt.mp q2⟩, ⟨Int32.not_lt.mp q3, Int32.not_lt.mp q4⟩, q⟩), if_pos rfl]; rfl
    · apply c_X8_drawn
      apply zL_of; rw [e_X8_drawn_0, hI.md.1 0 (by decide), if_neg (nI_ne0 (by omega) (by omega)), s_in (by omega), Option.bind_some]
      dsimp only
      by_cases q1 : (0 : Int32) ≤ x1 ∧ x1 ≤ 60
      · rw [zbi_t q1, if_neg zn10, s_in (by omega), Option.bind_some]
        dsimp only
        by_cases q2 : (1 : Int32) ≤ x2 ∧ x2 ≤ 999999
        · rw [zbi_t q2, if_neg zn10, s_in (by omega), Option.bind_some, zbi_eq zgm2]
          dsimp only
          rw [zbi_f (fun q => hg ⟨q1, q2, q⟩), if_pos rfl]; rfl
        · rw [zbi_f q2, if_pos rfl]; rfl
      · rw [zbi_f q1, if_pos rfl]; rfl
end ZX53

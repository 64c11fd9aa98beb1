/-! How likely no more than so many are lost: the reference; both -/
/-- both answer alike with a long -/
def zAlL (y1 y2 : Nat) (a1 : List Value) (M : ZM) : Prop := ∀ d, 12 ≤ d → ∃ r M1 M2 S', (zenv zbt d).2.1 y1 (.ref 0 :: a1) M = some (r, M1) ∧ (zenv zbt d).2.1 y2 (.ref 66 :: a1) M1 = some (r, M2) ∧ zInv S' M2
section ZX51
variable {d : Nat} {M : ZM} {S : Nat → Nat}
theorem l_w274 {A B : Nat} (hA : A < 2 ^ 63) (hB : B < 2 ^ 63) (y : Int32) {g : Nat} (hg0 : 0 < g) (hg : g < 2 ^ 63) : ∀ e a, e < 2 ^ 63 → a < 2 ^ 63 → Nat.gcd a e = g → zL (zenv zbt d) tb_X8_wrong cu_X8_wrong 274 [none, none, none, none, some (.int y), some (.long (lN B)), none, some (.long (lN A)), none, some (.long (lN a)), none, some (.long (lN e)), none, none, none] [] M (some (.long (if y = 0 then lN (A / g) else lN (B / g))), M) := by
  intro e
  induction e using Nat.strongRecOn with
  | ind e ih =>
    intro a he ha hgc
    by_cases h0 : e = 0
    · subst h0
      rw [Nat.gcd_zero_right] at hgc
      subst hgc
      have hne : ¬ (lN a = 0) := fun q => by
        have := (pk_lEQ (b := 0) ha (by decide)).mp q
        omega
      have hd : (!(decide (lN a = 0))) = true := by rw [decide_eq_false hne]; rfl
      apply zL_of; rw [e_X8_wrong_274, if_pos (show lg_cmp (lN 0) 0 ≤ 0 by decide), zck_t hd, zck_t hd, pk_lDiv hA hg0 ha, pk_lDiv hB hg0 ha]
      by_cases q : y = 0
      · rw [if_pos q, if_pos q]; rfl
      · rw [if_neg q, if_neg q]; rfl
    · have hne : ¬ (lN e = 0) := fun q => by
        have := (pk_lEQ (b := 0) he (by decide)).mp q
        omega
      have hr := Nat.mod_lt a (show 0 < e by omega)
      have hle : ¬ (lg_cmp (lN e) 0 ≤ 0) := fun q => by
        have := (pk_lLE (b := 0) he (by decide)).mp ((lg_cmp_le _ _).mp q)
        omega
      apply zL_of; rw [e_X8_wrong_274, if_neg hle, zck_t (by rw [decide_eq_false hne]; rfl), show zlrem (lN a) (lN e) = lN (a % e) from pk_lRem ha (by omega) he]
      exact zPo_go (ih (a % e) hr e (by omega) he (by rw [← zgcd1]; exact hgc))
theorem l_w177 {L : Nat → Nat} {r w al : Nat} (hal : r ≤ al) (hw : al - r = w) {s k p B c : Nat} {y : Int32} {res : Option Value} (hend : ∀ Mk, zFr [81] M Mk → (∀ j, j < 11 → Mk.2 81 j = lN (L j * r + (if 0 < j then L (j - 1) * w else 0))) → ∃ M', zL (zenv zbt d) tb_X8_wrong cu_X8_wrong 81 [some (.ref 66), some (.int (nI s)), some (.int (nI k)), some (.int (nI p)), some (.int y), some (.long (lN B)), none, some (.int (nI (c + 1))), none, none, none, none, none, none, none] [] Mk (res, M') ∧ zFr [81] M M') :
    ∀ n, n ≤ 10 → ∀ Mk, zFr [81] M Mk → (∀ j, j < 11 → Mk.2 81 j = lN (if n < j then L j * r + (if 0 < j then L (j - 1) * w else 0) else L j)) → ∃ M', zL (zenv zbt d) tb_X8_wrong cu_X8_wrong 177 [some (.ref 66), some (.int (nI s)), some (.int (nI k)), some (.int (nI p)), some (.int y), some (.long (lN B)), none, some (.int (nI c)), none, some (.long (lN al)), none, some (.long (lN r)), none, some (.int (nI n)), none] [] Mk (res, M') ∧ zFr [81] M M' := by
  intro n
  induction n with
  | zero =>
    intro _ Mk hf hv
    have h0 := hv 0 (by omega)
    rw [if_neg (by omega)] at h0
    obtain ⟨M', g1, g2⟩ := hend (zwl Mk 81 0 (lN (L 0 * r))) (hf.wl (by decide)) (fun j hj => by
      by_cases q : j = 0
      · rw [q, zwl_eq, if_neg (by omega), Nat.add_zero]
      · rw [zwl_nk q, hv j hj, if_pos (by omega)])
    refine ⟨M', ?_, g2⟩
    apply zL_of; rw [e_X8_wrong_177, if_neg (by decide), zck_t (by decide), if_pos (by decide), zck_t (by decide), zcN (by omega), h0, lN_mul, show lN (L 0 * r) + 0 = lN (L 0 * r) from lN_add _ 0]
    apply zPo_go
    apply zL_of; rw [e_X8_wrong_177, if_pos (by decide), nI_1]
    exact zPo_go g1
  | succ n ih =>
    intro hn Mk hf hv
    have h1 := hv (n + 1) (by omega)
    have h0 := hv n (by omega)
    rw [if_neg (by omega)] at h1 h0
    obtain ⟨M', g1, g2⟩ := ih (by omega) (zwl Mk 81 (n + 1) (lN (L (n + 1) * r + L n * w))) (hf.wl (by decide)) (fun j hj => by
      by_cases q : j = n + 1
      · rw [q, zwl_eq, if_pos (by omega), if_pos (by omega), Nat.add_sub_cancel]
      · rw [zwl_nk q, hv j hj]
        by_cases q2 : n + 1 < j
        · rw [if_pos q2, if_pos (show n < j by omega)]
        · rw [if_neg q2, if_neg (show ¬ n < j by omega)])
    refine ⟨M', ?_, g2⟩
    apply zL_of; rw [e_X8_wrong_177, if_neg (nI_pos (by omega)), zck_t (zinN (by omega) (by decide)), if_neg (nI_nle (by omega) (by omega)), show nI (n + 1) - 1 = nI n from pk_sub (a := n + 1) (b := 1) (by omega), zck_t (zinN (by omega) (by decide)), zck_t (zinN (by omega) (by decide)), zcN (by omega), zcN (by omega), h1, h0, lN_mul, lN_sub hal, hw, lN_mul, lN_add, pk_m1]
    exact zPo_go g1
theorem l_w135 {s k p c B t : Nat} (ht : t < 2 ^ 31) (hp : p ≤ 10) {y : Int32} {r : ZR} (hend : zL (zenv zbt d) tb_X8_wrong cu_X8_wrong 177 [some (.ref 66), some (.int (nI s)), some (.int (nI k)), some (.int (nI p)), some (.int y), some (.long (lN (B * 10 ^ t))), none, some (.int (nI c)), none, some (.long (lN (10 ^ t))), none, some (.long (lN ((10 - p) ^ t))), none, some (.int (nI 10)), none] [] M r) : zL (zenv zbt d) tb_X8_wrong cu_X8_wrong 135 [some (.ref 66), some (.int (nI s)), some (.int (nI k)), some (.int (nI p)), some (.int y), some (.long (lN B)), none, some (.int (nI c)), some (.int (nI t)), some (.long 1), none, some (.long 1), none, some (.int 0), none] [] M r := by
  have key : ∀ i, i ≤ t → zL (zenv zbt d) tb_X8_wrong cu_X8_wrong 135 [some (.ref 66), some (.int (nI s)), some (.int (nI k)), some (.int (nI p)), some (.int y), some (.long (lN B)), none, some (.int (nI c)), some (.int (nI t)), some (.long (lN (10 ^ i))), none, some (.long (lN ((10 - p) ^ i))), none, some (.int (nI i)), none] [] M r := by
    apply zup
    · apply zL_of; rw [e_X8_wrong_135, if_pos (nI_le (Nat.le_refl _) ht), lN_mul]
      exact zPo_go hend
    · intro i hi ih
      apply zL_of; rw [e_X8_wrong_135, if_neg (nI_ge hi ht), show (10 : Int32) - nI p = nI (10 - p) from pk_sub (a := 10) hp, nI_l (by omega), show (10 : Int64) = lN 10 from rfl, lN_mul, lN_mul, nI_1]
      exact zPo_go ih
  exact key 0 (by omega)
theorem l_wrongM (hd : 3 ≤ d) (hW : zwf S) (hM : zMod S M) {s k p : Nat} (hs : s < 2 ^ S 0) (hk : k ≤ 10) (hp : p ≤ 10) (y : Int32) : ∃ M', zL (zenv zbt d) tb_X8_wrong cu_X8_wrong 45 [some (.ref 66), some (.int (nI s)), some (.int (nI k)), some (.int (nI p)), some (.int y), some (.int 0), none, none, none, none, none, none, none, none, none] [] M (some (.long (if y = 0 then lN (zsum (zLw S s p (S 0)) (k + 1) / Nat.gcd (zsum (zLw S s p (S 0)) (k + 1)) (zBw S s (S 0))) else lN (zBw S s (S 0) / Nat.gcd (zsum (zLw S s p (S 0)) (k + 1)) (zBw S s (S 0))))), M') ∧ zFr [81] M M' := by
  have hn10 := hW.n
  have hp10 := zpow10 hn10
  have hon := hW.on
  have hBe : zBw S s (S 0) = 10 ^ ztear S (zon S) s := by rw [zBw_eq, ztc_sum hW hs]
  have hB0 : 0 < zBw S s (S 0) := by rw [hBe]; exact Nat.pow_pos (by decide)
  have hB63 : zBw S s (S 0) < 2 ^ 63 := by
    rw [hBe]
    exact Nat.lt_of_le_of_lt (Nat.pow_le_pow_right (by decide) (ztear_13 hW hs) : _ ≤ 10 ^ 13) (by decide)
  have hAB := zLw_le (S := S) (s := s) (p := p) (S 0) (k + 1)
  generalize hres : (if y = 0 then lN (zsum (zLw S s p (S 0)) (k + 1) / Nat.gcd (zsum (zLw S s p (S 0)) (k + 1)) (zBw S s (S 0))) else lN (zBw S s (S 0) / Nat.gcd (zsum (zLw S s p (S 0)) (k + 1)) (zBw S s (S 0)))) = res
  have last : ∀ Mk, zFr [81] M Mk → (∀ j, j < 11 → Mk.2 81 j = lN (zLw S s p (S 0) j)) → ∀ j, j ≤ k + 1 → zL (zenv zbt d) tb_X8_wrong cu_X8_wrong 242 [some (.ref 66), none, some (.int (nI k)), none, some (.int y), some (.long (lN (zBw S s (S 0)))), none, some (.long (lN (zsum (zLw S s p (S 0)) j))), none, some (.int (nI j)), none, none, none, none, none] [] Mk (some (.long res), Mk) := by
    intro Mk hf hv
    apply zup
    · apply zL_of; rw [e_X8_wrong_242, if_pos (nI_lt (by omega) (by omega)), ← hres]
      apply zPo_go
      have hg0 := Nat.gcd_pos_of_pos_right (zsum (zLw S s p (S 0)) (k + 1)) hB0
      have hgl := Nat.gcd_le_right (zsum (zLw S s p (S 0)) (k + 1)) hB0
      exact l_w274 (by omega) hB63 y hg0 (by omega) _ _ hB63 (by omega) rfl
    · intro j hj ih
      apply zL_of; rw [e_X8_wrong_242, if_neg (nI_nlt (by omega) (by omega)), zck_t (zinN (by omega) (by decide)), zcN (by omega), hv j (by omega), lN_add, nI_1]
      exact zPo_go ih
  have key : ∀ c, c ≤ S 0 → ∀ Mk, zFr [81] M Mk → (∀ j, j < 11 → Mk.2 81 j = lN (zLw S s p c j)) → ∃ M', zL (zenv zbt d) tb_X8_wrong cu_X8_wrong 81 [some (.ref 66), some (.int (nI s)), some (.int (nI k)), some (.int (nI p)), some (.int y), some (.long (lN (zBw S s c))), none, some (.int (nI c)), none, none, none, none, none, none, none] [] Mk (some (.long res), M') ∧ zFr [81] M M' := by
    apply zup
    · intro Mk hf hv
      have hMk := hM.fr hf (by decide) (by decide)
      refine ⟨Mk, ?_, hf⟩
      apply zL_of; rw [e_X8_wrong_81, hMk.1 0 (by decide), if_pos (nI_le (Nat.le_refl _) (by omega))]
      exact zPo_go (last Mk hf hv 0 (by omega))
    · intro c hc ih Mk hf hv
      have hMk := hM.fr hf (by decide) (by decide)
      have hdl := zdif_le (zon S) s
      have hpl := zpop_le (znx (S 1) (S 0) c &&& s)
      have hand : znx (S 1) (S 0) c &&& s < 1024 := Nat.lt_of_le_of_lt Nat.and_le_right (by omega)
      have htc : ztc S s c ≤ 10 := by
        unfold ztc
        split
        · exact hpl
        · omega
      have h1 : (10 - p) ^ ztc S s c ≤ 10 ^ ztc S s c := Nat.pow_le_pow_left (by omega) _
      have go : ∃ M', zL (zenv zbt d) tb_X8_wrong cu_X8_wrong 135 [some (.ref 66), some (.int (nI s)), some (.int (nI k)), some (.int (nI p)), some (.int y), some (.long (lN (zBw S s c))), none, some (.int (nI c)), some (.int (nI (ztc S s c))), some (.long 1), none, some (.long 1), none, some (.int 0), none] [] Mk (some (.long res), M') ∧ zFr [81] M M' := by
        obtain ⟨M', g1, g2⟩ := l_w177 (d := d) (M := M) (L := zLw S s p c) (s := s) (k := k) (p := p) (B := zBw S s (c + 1)) (c := c) (y := y) (res := some (.long res)) h1 rfl (fun M2 f2 hv2 => ih M2 f2 (fun j hj => by rw [hv2 j hj, zLw])) 10 (Nat.le_refl _) Mk hf (fun j hj => by rw [if_neg (by omega)]; exact hv j hj)
        exact ⟨M', l_w135 (by omega) hp g1, g2⟩
      obtain ⟨M', g1, g2⟩ := go
      refine ⟨M', ?_, g2⟩
      apply zL_of; rw [e_X8_wrong_81, hMk.1 0 (by decide), if_neg (nI_ge hc (by omega)), s_on (by omega) hW hMk, Option.bind_some]
      dsimp only
      rw [zandn (by omega), s_has (by omega) (by omega) (by omega), Option.bind_some]
      dsimp only
      cases q : (zdif (zon S) s).testBit c
      · rw [zbi_f (by decide), if_pos rfl]
        have e : ztc S s c = 0 := by unfold ztc; rw [q]; rfl
        rw [e] at g1
        exact zPo_go g1
      · have e : ztc S s c = zpop (znx (S 1) (S 0) c &&& s) := by unfold ztc; rw [q, if_pos rfl]
        rw [zbi_t rfl, if_neg zn10, zck_t (zinN (by omega) (by decide)), zcN (by omega), hMk.2 c hc, zand, s_ones (by omega) (by omega), Option.bind_some]
        dsimp only
        rw [e] at g1
        exact zPo_go g1
  have first : ∀ j, j ≤ 11 → ∀ Mk, zFr [81] M Mk → (∀ e, e < j → Mk.2 81 e = lN (zLw S s p 0 e)) → ∃ M', zL (zenv zbt d) tb_X8_wrong cu_X8_wrong 45 [some (.ref 66), some (.int (nI s)), some (.int (nI k)), some (.int (nI p)), some (.int y), some (.int (nI j)), none, none, none, none, none, none, none, none, none] [] Mk (some (.long res), M') ∧ zFr [81] M M' := by
    apply zup
    · intro Mk hf hv
      obtain ⟨M', g1, g2⟩ := key 0 (Nat.zero_le _) Mk hf hv
      refine ⟨M', ?_, g2⟩
      apply zL_of; rw [e_X8_wrong_45, if_pos (by decide)]
      exact zPo_go g1
    · intro j hj ih Mk hf hv
      by_cases q : j = 0
      · subst q
        obtain ⟨M', g1, g2⟩ := ih (zwl Mk 81 0 1) (hf.wl (by decide)) (fun e he => by
          rw [show e = 0 by omega, zwl_eq]; rfl)
        refine ⟨M', ?_, g2⟩
        apply zL_of; rw [e_X8_wrong_45, if_neg (by decide), if_pos zn0, zck_t (by decide), nI_1]
        exact zPo_go g1
      · obtain ⟨M', g1, g2⟩ := ih (zwl Mk 81 j 0) (hf.wl (by decide)) (fun e he => by
          by_cases q2 : e = j
          · rw [q2, zwl_eq]
            show 0 = lN (if j = 0 then 1 else 0)
            rw [if_neg q]; rfl
          · rw [zwl_nk q2]; exact hv e (by omega))
        refine ⟨M', ?_, g2⟩
        apply zL_of; rw [e_X8_wrong_45, if_neg (show ¬ ((10 : Int32) < nI j) from nI_nlt (a := 10) (by omega) (by decide)), if_neg (nI_ne0 (by omega) (by omega)), zck_t (zinN (by omega) (by decide)), zcN (by omega), nI_1]
        exact zPo_go g1
  exact first 0 (by omega) M zFr.rf (fun e he => by omega)
theorem a_wrong (hI : zInv S M) (x k p y : Int32) : zAlL 110 217 [.int x, .int k, .int p, .int y] M := by
  intro d hd
  obtain ⟨d, rfl⟩ : ∃ e, d = e + 1 := ⟨d - 1, by omega⟩
  have hn := hI.wf.n
  have hp10 := zpow10 hn
  cases hx : zpc S x
  · refine ⟨-1000001, M, M, S, ?_, ?_, hI⟩
    · apply c_X7_wrong
      apply zL_of; rw [e_X7_wrong_0, s_isPieceC (by omega) (Or.inl rfl) hI.wf hI.sh hI.fi, Option.bind_some]
      dsimp only
      rw [hx, zbi_f (by decide), if_pos rfl]; rfl
    · apply c_X8_wrong
      apply zL_of; rw [e_X8_wrong_0, s_isPieceM (by omega) hI.wf hI.md, Option.bind_some]
      dsimp only
      rw [hx, zbi_f (by decide), if_pos rfl]; rfl
  by_cases hg : ((0 : Int32) ≤ k ∧ k ≤ 10) ∧ ((0 : Int32) ≤ p ∧ p ≤ 10) ∧ zin y 2 = true
  · obtain ⟨s, hs, hs0, rfl, hh, hhg⟩ := zpc_of hx
    obtain ⟨hk, hp, hy⟩ := hg
    obtain ⟨k', hk', rfl⟩ := zi_of (n := 10) (by decide) hk.1 hk.2
    obtain ⟨p', hp', rfl⟩ := zi_of (n := 10) (by decide) hp.1 hp.2
    obtain ⟨M1, e1, f1⟩ := s_casesC (d := d) (by omega) (Or.inl rfl) hI.wf hI.sh hs hk' hp'
    have hI1 := hI.fr (f1.mono (by decide))
    obtain ⟨M2, e2, f2⟩ := l_wrongM (d := d) (by omega) hI.wf hI1.md hs hk' hp' y
    have hBe : zBw S s (S 0) = 10 ^ ztear S (zon S) s := by rw [zBw_eq, ztc_sum hI.wf hs]
    have hB0 : 0 < zBw S s (S 0) := by rw [hBe]; exact Nat.pow_pos (by decide)
    have hB45 : zBw S s (S 0) < 2 ^ 45 := by
      rw [hBe]
      exact Nat.lt_of_le_of_lt (Nat.pow_le_pow_right (by decide) (ztear_13 hI.wf hs) : _ ≤ 10 ^ 13) (by decide)
    have hAB := zLw_le (S := S) (s := s) (p := p') (S 0) (k' + 1)
    have hg0 := Nat.gcd_pos_of_pos_left (zsum (zLw S s p' (S 0)) (k' + 1)) hB0
    have hgl := Nat.gcd_le_left (zsum (zLw S s p' (S 0)) (k' + 1)) hB0
    have hne : ¬ (lN (Nat.gcd (zBw S s (S 0)) (zsum (zLw S s p' (S 0)) (k' + 1))) = 0) := fun q => by
      have := (pk_lEQ (b := 0) (by omega) (by decide)).mp q
      omega
    have hd0 : (!(decide (lN (Nat.gcd (zBw S s (S 0)) (zsum (zLw S s p' (S 0)) (k' + 1))) = 0))) = true := by rw [decide_eq_false hne]; rfl
    have ht := ztear_13 hI.wf hs
    refine ⟨if y = 0 then lN (zsum (zLw S s p' (S 0)) (k' + 1) / Nat.gcd (zsum (zLw S s p' (S 0)) (k' + 1)) (zBw S s (S 0))) else lN (zBw S s (S 0) / Nat.gcd (zsum (zLw S s p' (S 0)) (k' + 1)) (zBw S s (S 0))), M1, M2, S, ?_, ?_, hI1.fr (f2.mono (by decide))⟩
    rotate_left
    · apply c_X8_wrong
      apply zL_of; rw [e_X8_wrong_0, s_isPieceM (by omega) hI1.wf hI1.md, Option.bind_some]
      dsimp only
      rw [hx, zbi_t rfl, if_neg zn10, s_in (by omega), Option.bind_some]
      dsimp only
      rw [zbi_t hk, if_neg zn10, s_in (by omega), Option.bind_some]
      dsimp only
      rw [zbi_t hp, if_neg zn10, s_in (by omega), Option.bind_some, zbi_eq zgm2]
      dsimp only
      rw [hy, zbi_t rfl, if_neg zn10]
      exact zPo_go e2
    · apply c_X7_wrong
      apply zL_of; rw [e_X7_wrong_0, s_isPieceC (by omega) (Or.inl rfl) hI.wf hI.sh hI.fi, Option.bind_some]
      dsimp only
      rw [hx, zbi_t rfl, if_neg zn10, if_neg (Int32.not_lt.mpr hk.1), if_neg (Int32.not_lt.mpr hk.2), if_neg (Int32.not_lt.mpr hp.1), if_neg (Int32.not_lt.mpr hp.2), s_isEitherC (by omega), Option.bind_some]
      dsimp only
      rw [hy, zbi_t rfl, if_neg zn10, s_tearsOf (by omega) (Or.inl rfl) hI.wf hI.sh (by omega), Option.bind_some]
      dsimp only
      rw [show (10 : Int64) = lN 10 from rfl, s_powerOf (by omega) (by omega), Option.bind_some]
      dsimp only
      rw [e1, Option.bind_some]
      dsimp only
      rw [← hBe, s_gcdC (by omega) (by omega) (by omega), Option.bind_some]
      dsimp only
      rw [if_neg (fun q => hne ((lg_cmp_eq _ _).mp q)), zck_t hd0, zck_t hd0, pk_lDiv (by omega) hg0 (by omega), pk_lDiv (by omega) hg0 (by omega), Nat.gcd_comm]
      by_cases q : y = 0
      · rw [if_pos q, if_pos q]; rfl
      · rw [if_neg q, if_neg q]; rfl
  · refine ⟨-1000001, M, M, S, ?_, ?_, hI⟩
    · apply c_X7_wrong
      apply zL_of; rw [e_X7_wrong_0, s_isPieceC (by omega) (Or.inl rfl) hI.wf hI.sh hI.fi, Option.bind_some]
      dsimp only
      rw [hx, zbi_t rfl, if_neg zn10]
      by_cases q1 : k < 0
      · rw [if_pos q1]; rfl
      rw [if_neg q1]
      by_cases q2 : 10 < k
      · rw [if_pos q2]; rfl
      rw [if_neg q2]
      by_cases q3 : p < 0
      · rw [if_pos q3]; rfl
      rw [if_neg q3]
      by_cases q4 : 10 < p
      · rw [if_pos q4]; rfl
      rw [if_neg q4, s_isEitherC (by omega), Option.bind_some]
      dsimp only
      rw [zbi_f (fun q => hg ⟨⟨Int32.not_lt.mp q1, Int32.not_lt.mp q2⟩, ⟨Int32.not_lt.mp q3, Int32.not_lt.mp q4⟩, q⟩), if_pos rfl]; rfl
    · apply c_X8_wrong
      apply zL_of; rw [e_X8_wrong_0, s_isPieceM (by omega) hI.wf hI.md, Option.bind_some]
      dsimp only
      rw [hx, zbi_t rfl, if_neg zn10, s_in (by omega), Option.bind_some]
      dsimp only
      by_cases q1 : (0 : Int32) ≤ k ∧ k ≤ 10
      · rw [zbi_t q1, if_neg zn10, s_in (by omega), Option.bind_some]
        dsimp only
        by_cases q2 : (0 : Int32) ≤ p ∧ p ≤ 10
        · rw [zbi_t q2, if_neg zn10, s_in (by omega), Option.bind_some, zbi_eq zgm2]
          dsimp only
          rw [zbi_f (fun q => hg ⟨q1, q2, q⟩), if_pos rfl]; rfl
        · rw [zbi_f q2, if_pos rfl]; rfl
      · rw [zbi_f q1, if_pos rfl]; rfl
end ZX51

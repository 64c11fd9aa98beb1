/-! How many pieces there are, of so many stamps, straight ones -/
def zall (f : Nat → Bool) : Nat → Bool
  | 0 => true
  | k + 1 => zall f k && f k
theorem zall_t {f : Nat → Bool} : ∀ {n : Nat}, (∀ i, i < n → f i = true) → zall f n = true
  | 0, _ => rfl
  | n + 1, h => by rw [zall, zall_t (fun i hi => h i (by omega)), h n (by omega)]; rfl
def zB (p : Bool) : Int32 := match p with
  | true => 1
  | false => 0
theorem zB_1 (p : Bool) : zB p &&& nI 1 = zB (p && true) := by cases p <;> rfl
theorem zB_0 (p : Bool) : zB p &&& nI 0 = zB (p && false) := by cases p <;> rfl
def zsr (S : Nat → Nat) (s c : Nat) : Bool := !s.testBit c || (c / S 1 == zlow s / S 1)
def zsk (S : Nat → Nat) (s c : Nat) : Bool := !s.testBit c || (c % S 1 == zlow s % S 1)
def zstr (S : Nat → Nat) (s : Nat) : Bool := zall (zsr S s) (S 0) || zall (zsk S s) (S 0)
def zpG (S : Nat → Nat) (n w : Nat) (acc s : Nat) : Nat := acc + (if (zheld S s && ((decide (w = 0) || zpop s == n) && (decide (w < 2) || zstr S s))) = true then 1 else 0)
theorem zn0 : nI 0 = (0 : Int32) := rfl
theorem zn1 : nI 1 = (1 : Int32) := rfl
theorem zn2 : nI 2 = (2 : Int32) := rfl
theorem zBf : zB false = 0 := rfl
theorem zBt : ¬ (zB true = 0) := by decide
theorem zshp_w : ∀ q ∈ zshp, 1 ≤ q.1 ∧ q.1 ≤ 6 ∧ 1 ≤ q.2 := by decide
section ZX40
variable {d : Nat} {M : ZM} {S : Nat → Nat} {b : Nat}
theorem s_strC (hd : 2 ≤ d) (hb : zsh b) (hW : zwf S) (hp : 0 < S 0) (hS : zSheet S b M) {a : Nat} (ha : a < 1024) (h0 : a ≠ 0) : (zenv zbt d).1 16 [.ref 53, .ref b, .int (nI a)] M = some (zB (zstr S a), M) := by
  obtain ⟨d, rfl⟩ : ∃ e, d = e + 1 := ⟨d - 1, by omega⟩
  have hn10 := hW.n
  obtain ⟨w1, w2, -⟩ := zshp_w _ (hW.sh hp)
  dsimp only at w1 w2
  have hl := (zlow_lt a ha h0).1
  have hw0 : M.1 b 0 = nI (S 1) := hS.1
  have hne : (!(decide (nI (S 1) = 0))) = true := by
    rw [decide_eq_false (nI_ne0 (by omega) (by omega))]; rfl
  have key : ∀ i, i ≤ S 0 → zL (zenv zbt d) tb_X2_isStraight cu_X2_isStraight 24 [none, some (.ref b), some (.int (nI a)), some (.int (nI (zlow a))), some (.int (zB (zall (zsr S a) i))), some (.int (zB (zall (zsk S a) i))), some (.int (nI i))] [] M (some (.int (zB (zstr S a))), M) := by
    apply zup
    · apply zL_of; rw [e_X2_isStraight_24 _ _ _ hb, hS.2.1, if_pos (nI_le (Nat.le_refl _) (by omega))]
      unfold zstr
      cases zall (zsr S a) (S 0) <;> cases zall (zsk S a) (S 0) <;> rfl
    · intro i hi ih
      rw [zall, zall] at ih
      apply zL_of; rw [e_X2_isStraight_24 _ _ _ hb, hS.2.1, if_neg (nI_ge hi (by omega))]
      cases h : a.testBit i
      · have sr : zsr S a i = true := by unfold zsr; rw [h]; rfl
        have sk : zsk S a i = true := by unfold zsk; rw [h]; rfl
        rw [if_pos ((zbit0 (by omega) (by omega)).mpr h)]
        apply zPo_go
        simpa only [zlit, nI_add, sr, sk, Bool.and_true] using ih
      · have er : zrem (nI i) (nI (S 1)) = nI (i % S 1) := pk_rem (by omega) w1 (by omega)
        have er2 : zrem (nI (zlow a)) (nI (S 1)) = nI (zlow a % S 1) := pk_rem (by omega) w1 (by omega)
        have d1 : nI i / nI (S 1) = nI (i / S 1) := pk_div (by omega) w1 (by omega)
        have d2 : nI (zlow a) / nI (S 1) = nI (zlow a / S 1) := pk_div (by omega) w1 (by omega)
        have b1 := Nat.div_le_self i (S 1)
        have b2 := Nat.div_le_self (zlow a) (S 1)
        have b3 := Nat.mod_le i (S 1)
        have b4 := Nat.mod_le (zlow a) (S 1)
        rw [if_neg (fun q => by rw [zbit0 (by omega) (by omega), h] at q; cases q), hw0]
        simp only [zck_t hne, er, er2, d1, d2]
        by_cases e1 : i / S 1 = zlow a / S 1
        · have sr : zsr S a i = true := by unfold zsr; rw [h, beq_iff_eq.mpr e1]; rfl
          rw [if_pos (congrArg nI e1)]
          by_cases e2 : i % S 1 = zlow a % S 1
          · have sk : zsk S a i = true := by unfold zsk; rw [h, beq_iff_eq.mpr e2]; rfl
            rw [if_pos (congrArg nI e2)]
            apply zPo_go
            simpa only [zlit, nI_add, sr, sk, zB_1, zB_0] using ih
          · have sk : zsk S a i = false := by unfold zsk; rw [h, beq_eq_false_iff_ne.mpr e2]; rfl
            rw [if_neg (fun q => e2 ((nI_eq (by omega) (by omega)).mp q))]
            apply zPo_go
            simpa only [zlit, nI_add, sr, sk, zB_1, zB_0] using ih
        · have sr : zsr S a i = false := by unfold zsr; rw [h, beq_eq_false_iff_ne.mpr e1]; rfl
          rw [if_neg (fun q => e1 ((nI_eq (by omega) (by omega)).mp q))]
          by_cases e2 : i % S 1 = zlow a % S 1
          · have sk : zsk S a i = true := by unfold zsk; rw [h, beq_iff_eq.mpr e2]; rfl
            rw [if_pos (congrArg nI e2)]
            apply zPo_go
            simpa only [zlit, nI_add, sr, sk, zB_1, zB_0] using ih
          · have sk : zsk S a i = false := by unfold zsk; rw [h, beq_eq_false_iff_ne.mpr e2]; rfl
            rw [if_neg (fun q => e2 ((nI_eq (by omega) (by omega)).mp q))]
            apply zPo_go
            simpa only [zlit, nI_add, sr, sk, zB_1, zB_0] using ih
  apply c_X2_isStraight
  apply zL_of; rw [e_X2_isStraight_0 _ _ _ hb, hw0, if_pos (show (1 : Int32) ≤ nI (S 1) from nI_le w1 (by omega)), s_ntz (by omega) ha h0, Option.bind_some]
  exact zPo_go (key 0 (by omega))
theorem s_strM (hd : 3 ≤ d) (hW : zwf S) (hM : zMod S M) {a : Nat} (ha : a < 2 ^ S 0) (h0 : a ≠ 0) : (zenv zbt d).1 196 [.ref 66, .int (nI a)] M = some (zB (zstr S a), M) := by
  obtain ⟨d, rfl⟩ : ∃ e, d = e + 1 := ⟨d - 1, by omega⟩
  have hn10 := hW.n
  have hp10 := zpow10 hn10
  obtain ⟨hl, hl2, hl3⟩ := zlow_lt a (by omega) h0
  have hl4 : zlow a < S 0 := zlt_of_bit ha hl2
  obtain ⟨w1, w2, -⟩ := zshp_w _ (hW.sh (by omega))
  dsimp only at w1 w2
  have hne : (!(decide (nI (S 1) = 0))) = true := by
    rw [decide_eq_false (nI_ne0 (by omega) (by omega))]; rfl
  have key : ∀ i, i ≤ S 0 → zL (zenv zbt d) tb_X8_isStraight cu_X8_isStraight 14 [some (.ref 66), some (.int (nI a)), some (.int (zB (zall (zsr S a) i))), some (.int (zB (zall (zsk S a) i))), some (.int (nI (zlow a))), some (.int (nI i))] [] M (some (.int (zB (zstr S a))), M) := by
    apply zup
    · apply zL_of; rw [e_X8_isStraight_14, hM.1 0 (by decide), if_pos (nI_le (Nat.le_refl _) (by omega))]
      unfold zstr
      cases zall (zsr S a) (S 0) <;> cases zall (zsk S a) (S 0) <;> rfl
    · intro i hi ih
      rw [zall, zall] at ih
      have hh : (zenv zbt d).1 144 [.int (nI a), .int (nI i)] M = some (zbi (a.testBit i = true), M) := s_has (by omega) (by omega) (by omega)
      have er : zrem (nI i) (nI (S 1)) = nI (i % S 1) := pk_rem (by omega) w1 (by omega)
      have er2 : zrem (nI (zlow a)) (nI (S 1)) = nI (zlow a % S 1) := pk_rem (by omega) w1 (by omega)
      have d1 : nI i / nI (S 1) = nI (i / S 1) := pk_div (by omega) w1 (by omega)
      have d2 : nI (zlow a) / nI (S 1) = nI (zlow a / S 1) := pk_div (by omega) w1 (by omega)
      have b1 := Nat.div_le_self i (S 1)
      have b2 := Nat.div_le_self (zlow a) (S 1)
      have b3 := Nat.mod_le i (S 1)
      have b4 := Nat.mod_le (zlow a) (S 1)
      have q1 : (nI (i / S 1) = nI (zlow a / S 1)) ↔ (i / S 1 = zlow a / S 1) := nI_eq (by omega) (by omega)
      have q2 : (nI (i % S 1) = nI (zlow a % S 1)) ↔ (i % S 1 = zlow a % S 1) := nI_eq (by omega) (by omega)
      apply zL_of; rw [e_X8_isStraight_14, hM.1 0 (by decide), if_neg (nI_ge hi (by omega))]
      cases h : a.testBit i
      · have sr : zsr S a i = true := by unfold zsr; rw [h]; rfl
        have sk : zsk S a i = true := by unfold zsk; rw [h]; rfl
        have e0 : zbi (a.testBit i = true) = 0 := zbi_f (by rw [h]; decide)
        rw [e0] at hh
        rw [sr, sk, Bool.and_true, Bool.and_true] at ih
        cases hr : zall (zsr S a) i <;> cases hk : zall (zsk S a) i <;> rw [hr, hk] at ih <;> simp only [zB] at ih <;> simp only [zB, hh, Option.bind_some, zn10, if_true, if_false, eq_self] <;> exact zPo_go (by simpa only [zlit, nI_add] using ih)
      · have e0 : zbi (a.testBit i = true) = 1 := zbi_t h
        rw [e0] at hh
        by_cases e1 : i / S 1 = zlow a / S 1
        · have sr : zsr S a i = true := by unfold zsr; rw [h, beq_iff_eq.mpr e1]; rfl
          by_cases e2 : i % S 1 = zlow a % S 1
          · have sk : zsk S a i = true := by unfold zsk; rw [h, beq_iff_eq.mpr e2]; rfl
            rw [sr, sk] at ih
            cases hr : zall (zsr S a) i <;> cases hk : zall (zsk S a) i <;> rw [hr, hk] at ih <;> simp only [zB, Bool.and_true, Bool.and_false] at ih <;> simp only [zB, hh, Option.bind_some, zn10, if_true, if_false, eq_self, hM.1 1 (by decide), zck_t hne, er, er2, d1, d2, q1, q2, e1, e2] <;> exact zPo_go (by simpa only [zlit, nI_add] using ih)
          · have sk : zsk S a i = false := by unfold zsk; rw [h, beq_eq_false_iff_ne.mpr e2]; rfl
            rw [sr, sk] at ih
            cases hr : zall (zsr S a) i <;> cases hk : zall (zsk S a) i <;> rw [hr, hk] at ih <;> simp only [zB, Bool.and_true, Bool.and_false] at ih <;> simp only [zB, hh, Option.bind_some, zn10, if_true, if_false, eq_self, hM.1 1 (by decide), zck_t hne, er, er2, d1, d2, q1, q2, e1, e2] <;> exact zPo_go (by simpa only [zlit, nI_add] using ih)
        · have sr : zsr S a i = false := by unfold zsr; rw [h, beq_eq_false_iff_ne.mpr e1]; rfl
          by_cases e2 : i % S 1 = zlow a % S 1
          · have sk : zsk S a i = true := by unfold zsk; rw [h, beq_iff_eq.mpr e2]; rfl
            rw [sr, sk] at ih
            cases hr : zall (zsr S a) i <;> cases hk : zall (zsk S a) i <;> rw [hr, hk] at ih <;> simp only [zB, Bool.and_true, Bool.and_false] at ih <;> simp only [zB, hh, Option.bind_some, zn10, if_true, if_false, eq_self, hM.1 1 (by decide), zck_t hne, er, er2, d1, d2, q1, q2, e1, e2] <;> exact zPo_go (by simpa only [zlit, nI_add] using ih)
          · have sk : zsk S a i = false := by unfold zsk; rw [h, beq_eq_false_iff_ne.mpr e2]; rfl
            rw [sr, sk] at ih
            cases hr : zall (zsr S a) i <;> cases hk : zall (zsk S a) i <;> rw [hr, hk] at ih <;> simp only [zB, Bool.and_true, Bool.and_false] at ih <;> simp only [zB, hh, Option.bind_some, zn10, if_true, if_false, eq_self, hM.1 1 (by decide), zck_t hne, er, er2, d1, d2, q1, q2, e1, e2] <;> exact zPo_go (by simpa only [zlit, nI_add] using ih)
  apply c_X8_isStraight
  apply zL_of; rw [e_X8_isStraight_0, s_lowest (by omega) (by omega) h0, Option.bind_some]
  apply zPo_go
  have k0 := key (zlow a) (by omega)
  have t1 : zall (zsr S a) (zlow a) = true := zall_t (fun i hi => by unfold zsr; rw [hl3 i hi]; rfl)
  have t2 : zall (zsk S a) (zlow a) = true := zall_t (fun i hi => by unfold zsk; rw [hl3 i hi]; rfl)
  rw [t1, t2] at k0
  exact k0
theorem s_countOf (hd : 3 ≤ d) (hb : zsh b) (hW : zwf S) (hp : 0 < S 0) (hS : zSheet S b M) (hF : zFin S M) {n w : Nat} (hn : n < 2 ^ 31) {x3 : Int32} (hw : (w = 1 ∧ x3 = 0) ∨ (w = 2 ∧ x3 = 1)) : (zenv zbt d).1 15 [.ref 53, .ref b, .int (nI n), .int x3] M = some (nI ((zHL S).foldl (zpG S n w) 0), M) := by
  obtain ⟨d, rfl⟩ : ∃ e, d = e + 1 := ⟨d - 1, by omega⟩
  have hlen := zHL_len hW
  have hp10 := zpow10 hW.n
  have key : ∀ k, k ≤ (zHL S).length → zL (zenv zbt d) tb_X2_countOf cu_X2_countOf 6 [some (.ref 53), some (.ref b), some (.int (nI n)), some (.int x3), some (.int (nI (((zHL S).take k).foldl (zpG S n w) 0))), some (.int (nI k)), none] [] M (some (.int (nI ((zHL S).foldl (zpG S n w) 0))), M) := by
    apply zup
    · apply zL_of; rw [e_X2_countOf_6 _ _ _ hb, hF.2.1, if_pos (nI_le (Nat.le_refl _) (by omega)), ztake_all]; rfl
    · intro k hk ih
      obtain ⟨x, hx⟩ : ∃ x, (zHL S)[k]? = some x := ⟨_, List.getElem?_eq_getElem hk⟩
      have hxm := zHL_mem hx
      have hpp := zpop_le x
      rw [ztake_succ hx] at ih
      generalize ((zHL S).take k).foldl (zpG S n w) 0 = acc at ih ⊢
      have L0 : zpG S n w acc x = acc → zL (zenv zbt d) tb_X2_countOf cu_X2_countOf 6 [some (.ref 53), some (.ref b), some (.int (nI n)), some (.int x3), some (.int (nI acc)), some (.int (nI k + 1)), none] [] M (some (.int (nI ((zHL S).foldl (zpG S n w) 0))), M) := fun e => by
        rw [e] at ih
        simpa only [zlit, nI_add] using ih
      have L1 : zpG S n w acc x = acc + 1 → zL (zenv zbt d) tb_X2_countOf cu_X2_countOf 6 [some (.ref 53), some (.ref b), some (.int (nI n)), some (.int x3), some (.int (nI acc + 1)), some (.int (nI k + 1)), none] [] M (some (.int (nI ((zHL S).foldl (zpG S n w) 0))), M) := fun e => by
        rw [e] at ih
        simpa only [zlit, nI_add] using ih
      apply zL_of; rw [e_X2_countOf_6 _ _ _ hb, hF.2.1, if_neg (nI_ge hk (by omega)), zck_t (zinN (by omega) (by decide)), zcN (by omega), hF.2.2 k x hx, s_bitCount (by omega) (by omega), Option.bind_some]
      dsimp only
      by_cases h1 : zpop x = n
      · rw [if_pos (congrArg nI h1), s_holds (by omega) hb hW hS (by omega), Option.bind_some]
        dsimp only
        by_cases hh : zdif x (zon S) = 0
        · have e : zheld S x = true := by unfold zheld; rw [hh]; rfl
          rw [zbi_t hh, if_neg zn10]
          rcases hw with ⟨rfl, rfl⟩ | ⟨rfl, rfl⟩
          · rw [if_pos rfl]
            exact zPo_go (L1 (by simp [zpG, e, h1]))
          · rw [if_neg zn10, s_strC (by omega) hb hW hp hS (by omega) hxm.2.2, Option.bind_some]
            dsimp only
            cases hs : zstr S x
            · rw [if_pos zBf]
              exact zPo_go (by
                have := L0 (by simp [zpG, e, h1, hs])
                simpa only [zlit, nI_add, Nat.add_zero] using this)
            · rw [if_neg (show ¬ (zB true = 0) from zn10)]
              exact zPo_go (L1 (by simp [zpG, e, h1, hs]))
        · have e : zheld S x = false := by
            unfold zheld
            exact beq_eq_false_iff_ne.mpr hh
          rw [zbi_f hh, if_pos rfl]
          exact zPo_go (L0 (by simp [zpG, e]))
      · rw [if_neg (fun q => h1 ((nI_eq (by omega) hn).mp q))]
        exact zPo_go (L0 (by
          have : ¬ w = 0 := by omega
          simp [zpG, h1, this]))
  apply c_X2_countOf
  apply zL_of; rw [e_X2_countOf_0 _ _ _ hb]; apply zPo_go
  exact key 0 (by omega)
theorem l_piecesM (hd : 3 ≤ d) (hW : zwf S) (hM : zMod S M) {n w : Nat} (hn : n < 2 ^ 31) {y : Int32} (f0 : y = 0 ↔ w = 0) (f2 : y < 2 ↔ w < 2) : ∀ s, s ≤ 2 ^ S 0 → 0 < s → zL (zenv zbt d) tb_X8_pieces cu_X8_pieces 39 [some (.ref 66), some (.int (nI n)), some (.int y), some (.int (nI ((List.range s).foldl (fun a s => if zhang S s then zpG S n w a s else a) 0))), some (.int (nI s)), none] [] M (some (.int (nI ((zHL S).foldl (zpG S n w) 0))), M) := by
  have hp10 := zpow10 hW.n
  have hE : (zHL S).foldl (zpG S n w) 0 = (List.range (2 ^ S 0)).foldl (fun a s => if zhang S s then zpG S n w a s else a) 0 := (zfold_HL (fun a s _ => rfl)).symm
  apply zup
  · intro _
    apply zL_of; rw [e_X8_pieces_39, zsh1 hW hM, if_pos (nI_le (Nat.le_refl _) (by omega)), hE]; rfl
  · intro k hk ih h0
    have ih := ih (by omega)
    rw [zrange_succ] at ih
    generalize (List.range k).foldl (fun a s => if zhang S s then zpG S n w a s else a) 0 = acc at ih ⊢
    have L0 : (if zhang S k then zpG S n w acc k else acc) = acc → zL (zenv zbt d) tb_X8_pieces cu_X8_pieces 39 [some (.ref 66), some (.int (nI n)), some (.int y), some (.int (nI acc + 0)), some (.int (nI k + 1)), none] [] M (some (.int (nI ((zHL S).foldl (zpG S n w) 0))), M) := fun e => by
      rw [e] at ih
      simpa only [zlit, nI_add, Nat.add_zero] using ih
    have L1 : (if zhang S k then zpG S n w acc k else acc) = acc + 1 → zL (zenv zbt d) tb_X8_pieces cu_X8_pieces 39 [some (.ref 66), some (.int (nI n)), some (.int y), some (.int (nI acc + 1)), some (.int (nI k + 1)), none] [] M (some (.int (nI ((zHL S).foldl (zpG S n w) 0))), M) := fun e => by
      rw [e] at ih
      simpa only [zlit, nI_add] using ih
    have g1 : (zenv zbt d).1 171 [.ref 66] M = some (nI (zgone S), M) := s_gone (by omega) hM
    have g2 : (zenv zbt d).1 145 [.int (nI k)] M = some (nI (zpop k), M) := s_ones (by omega) (by omega)
    have g3 : (zenv zbt d).1 176 [.ref 66, .int (nI k)] M = some (zbi (zhang S k = true), M) := s_hangs (by omega) hW hM (by omega)
    have g4 : (zenv zbt d).1 196 [.ref 66, .int (nI k)] M = some (zB (zstr S k), M) := s_strM (by omega) hW hM hk (by omega)
    have hpp := zpop_le k
    have hand : k &&& zgone S < 2 ^ 10 := Nat.lt_of_le_of_lt Nat.and_le_left (by omega)
    apply zL_of; rw [e_X8_pieces_39, zsh1 hW hM, if_neg (nI_ge hk (by omega)), g1, Option.bind_some]
    dsimp only
    rw [zand]
    cases hh : zheld S k
    · have hx : ¬ (k &&& zgone S = 0) := fun q => by rw [(zheld_gone hk).mp q] at hh; cases hh
      rw [if_neg (nI_ne0 (by omega) (by omega)), if_pos rfl]
      exact zPo_go (L0 (by simp [zpG, hh]))
    · have hx : k &&& zgone S = 0 := (zheld_gone hk).mpr hh
      rw [hx, if_pos (show nI 0 = (0 : Int32) from rfl)]
      have q1 : (nI (zpop k) = nI n) ↔ zpop k = n := nI_eq (by omega) hn
      cases hz : zhang S k
      · rw [zbi_f (by rw [hz]; decide)] at g3
        have e0 : (if zhang S k then zpG S n w acc k else acc) = acc := by rw [hz]; rfl
        by_cases hw : w = 0
        · rw [if_pos (f0.mpr hw), g3, Option.bind_some]
          dsimp only
          rw [if_pos rfl, if_pos rfl]
          exact zPo_go (L0 e0)
        · rw [if_neg (fun q => hw (f0.mp q)), g2, Option.bind_some]
          dsimp only
          by_cases hq : zpop k = n
          · rw [if_pos (q1.mpr hq), g3, Option.bind_some]
            dsimp only
            rw [if_pos rfl, if_pos rfl]
            exact zPo_go (L0 e0)
          · rw [if_neg (fun q => hq (q1.mp q)), if_pos rfl]
            exact zPo_go (L0 e0)
      · rw [zbi_t hz] at g3
        by_cases hw : w = 0
        · rw [if_pos (f0.mpr hw), g3, Option.bind_some]
          dsimp only
          rw [if_neg zn10, if_neg zn10, if_pos (f2.mpr (by omega))]
          exact zPo_go (L1 (by simp [hz, zpG, hh, hw]))
        · rw [if_neg (fun q => hw (f0.mp q)), g2, Option.bind_some]
          dsimp only
          by_cases hq : zpop k = n
          · rw [if_pos (q1.mpr hq), g3, Option.bind_some]
            dsimp only
            rw [if_neg zn10, if_neg zn10]
            by_cases hw2 : w < 2
            · rw [if_pos (f2.mpr hw2)]
              exact zPo_go (L1 (by simp [hz, zpG, hh, hq, hw2]))
            · rw [if_neg (fun q => hw2 (f2.mp q)), g4, Option.bind_some]
              dsimp only
              cases hs : zstr S k
              · rw [if_pos zBf]
                exact zPo_go (L0 (by simp [hz, zpG, hh, hq, hw2, hs]))
              · rw [if_neg (show ¬ (zB true = 0) from zn10)]
                exact zPo_go (L1 (by simp [hz, zpG, hh, hq, hs]))
          · rw [if_neg (fun q => hq (q1.mp q)), if_pos rfl]
            exact zPo_go (L0 (by simp [hz, zpG, hq, hw]))
theorem zi_of {x : Int32} {n : Nat} (hn : n < 2 ^ 31) (h0 : (0 : Int32) ≤ x) (h1 : x ≤ nI n) : ∃ j, j ≤ n ∧ x = nI j := by
  obtain ⟨j, hj, rfl⟩ := nI_of (x := x) (Int32.not_lt.mpr h0)
  exact ⟨j, (nI_leI hj hn).mp h1, rfl⟩
theorem a_pieces (hI : zInv S M) (x y : Int32) : zAl 98 197 [.int x, .int y] M := by
  have hn := hI.wf.n
  have hp10 := zpow10 hn
  by_cases h0 : S 0 = 0
  · refine zAl.of hI (r := -1000002) (fun d hd => ⟨M, ?_, zFr.rf⟩) (fun d M hd hI => ⟨M, ?_, zFr.rf⟩)
    · obtain ⟨d, rfl⟩ : ∃ e, d = e + 1 := ⟨d - 1, by omega⟩
      apply c_X7_pieces
      apply zL_of; rw [e_X7_pieces_0, s_isThereC (by omega) hI, Option.bind_some]
      dsimp only
      rw [zbi_f (fun q => q h0), if_pos rfl]; rfl
    · obtain ⟨d, rfl⟩ : ∃ e, d = e + 1 := ⟨d - 1, by omega⟩
      apply c_X8_pieces
      apply zL_of; rw [e_X8_pieces_0, hI.md.1 0 (by decide), h0, if_pos zn0]; rfl
  by_cases hx : (1 : Int32) ≤ x ∧ x ≤ 10
  · by_cases hy : (0 : Int32) ≤ y ∧ y ≤ 2
    · obtain ⟨n, hn1, rfl⟩ := zi_of (n := 10) (by decide) (Int32.le_trans (by decide) hx.1) hx.2
      obtain ⟨w, hw1, rfl⟩ := zi_of (n := 2) (by decide) hy.1 hy.2
      have f0 : nI w = 0 ↔ w = 0 := nI_eq (b := 0) (by omega) (by decide)
      have f1 : nI w = 1 ↔ w = 1 := nI_eq (b := 1) (by omega) (by decide)
      have f3 : nI w = 2 ↔ w = 2 := nI_eq (b := 2) (by omega) (by decide)
      have f2 : nI w < 2 ↔ w < 2 := nI_ltI (b := 2) (by omega) (by decide)
      refine zAl.of hI (r := nI ((zHL S).foldl (zpG S n w) 0)) (fun d hd => ⟨M, ?_, zFr.rf⟩) (fun d M hd hI => ⟨M, ?_, zFr.rf⟩)
      · obtain ⟨d, rfl⟩ : ∃ e, d = e + 1 := ⟨d - 1, by omega⟩
        apply c_X7_pieces
        apply zL_of; rw [e_X7_pieces_0, s_isThereC (by omega) hI, Option.bind_some]
        dsimp only
        rw [zbi_t h0, if_neg zn10, if_neg (Int32.not_lt.mpr hx.1), if_pos hx.2]
        have hw3 : w = 0 ∨ w = 1 ∨ w = 2 := by omega
        rcases hw3 with rfl | rfl | rfl
        · rw [if_pos zn0, s_countAll (by omega) (Or.inl rfl) hI.wf hI.sh hI.fi, Option.bind_some]
          have e : zcntG S = zpG S n 0 := by
            funext a s
            simp [zcntG, zpG]
          unfold zcntA
          rw [e]; rfl
        · rw [if_neg (by decide), if_pos zn1, s_countOf (w := 1) (by omega) (Or.inl rfl) hI.wf (by omega) hI.sh hI.fi (by omega) (Or.inl ⟨rfl, rfl⟩), Option.bind_some]; rfl
        · rw [if_neg (by decide), if_neg (by decide), if_pos zn2, s_countOf (w := 2) (by omega) (Or.inl rfl) hI.wf (by omega) hI.sh hI.fi (by omega) (Or.inr ⟨rfl, rfl⟩), Option.bind_some]; rfl
      · obtain ⟨d, rfl⟩ : ∃ e, d = e + 1 := ⟨d - 1, by omega⟩
        apply c_X8_pieces
        apply zL_of; rw [e_X8_pieces_0, hI.md.1 0 (by decide), if_neg (nI_ne0 (by omega) (by omega)), s_in (by omega), Option.bind_some]
        dsimp only
        rw [zbi_t hy, if_neg zn10, s_in (by omega), Option.bind_some]
        dsimp only
        rw [zbi_t hx, if_neg zn10]
        apply zPo_go
        have hp1 := Nat.two_pow_pos (S 0)
        have := l_piecesM (d := d) (by omega) hI.wf hI.md (n := n) (w := w) (by omega) f0 f2 1 (by omega) (by omega)
        have e0 : (List.range 1).foldl (fun a s => if zhang S s then zpG S n w a s else a) 0 = 0 := by
          simp [List.range_succ, zhang]
        rw [e0] at this
        exact this
    · refine zAl.of hI (r := -1000001) (fun d hd => ⟨M, ?_, zFr.rf⟩) (fun d M hd hI => ⟨M, ?_, zFr.rf⟩)
      · obtain ⟨d, rfl⟩ : ∃ e, d = e + 1 := ⟨d - 1, by omega⟩
        apply c_X7_pieces
        apply zL_of; rw [e_X7_pieces_0, s_isThereC (by omega) hI, Option.bind_some]
        dsimp only
        rw [zbi_t h0, if_neg zn10, if_neg (Int32.not_lt.mpr hx.1), if_pos hx.2, if_neg (fun e => hy (by rw [e]; decide)), if_neg (fun e => hy (by rw [e]; decide)), if_neg (fun e => hy (by rw [e]; decide))]; rfl
      · obtain ⟨d, rfl⟩ : ∃ e, d = e + 1 := ⟨d - 1, by omega⟩
        apply c_X8_pieces
        apply zL_of; rw [e_X8_pieces_0, hI.md.1 0 (by decide), if_neg (nI_ne0 (by omega) (by omega)), s_in (by omega), Option.bind_some]
        dsimp only
        rw [zbi_f hy, if_pos rfl]; rfl
  · refine zAl.of hI (r := -1000001) (fun d hd => ⟨M, ?_, zFr.rf⟩) (fun d M hd hI => ⟨M, ?_, zFr.rf⟩)
    · obtain ⟨d, rfl⟩ : ∃ e, d = e + 1 := ⟨d - 1, by omega⟩
      apply c_X7_pieces
      apply zL_of; rw [e_X7_pieces_0, s_isThereC (by omega) hI, Option.bind_some]
      dsimp only
      rw [zbi_t h0, if_neg zn10]
      by_cases h1 : x < 1
      · rw [if_pos h1]; rfl
      · rw [if_neg h1, if_neg (fun q => hx ⟨Int32.not_lt.mp h1, q⟩)]; rfl
    · obtain ⟨d, rfl⟩ : ∃ e, d = e + 1 := ⟨d - 1, by omega⟩
      apply c_X8_pieces
      apply zL_of; rw [e_X8_pieces_0, hI.md.1 0 (by decide), if_neg (nI_ne0 (by omega) (by omega)), s_in (by omega), Option.bind_some]
      dsimp only
      by_cases hy : (0 : Int32) ≤ y ∧ y ≤ 2
      · rw [zbi_t hy, if_neg zn10, s_in (by omega), Option.bind_some]
        dsimp only
        rw [zbi_f hx, if_pos rfl]; rfl
      · rw [zbi_f hy, if_pos rfl]; rfl
end ZX40

/-! A sheet as the reference reads it: bytes, numbers, the law, stamps, customers -/
def zTpM (B : Nat → Nat) (n : Nat) (M : ZM) : Prop := M.1 66 6 = nI n ∧ ∀ i, i < n → M.1 71 i = nI (B i)
def zRM (B : Nat → Nat) (n : Nat) (M : ZM) (q : Nat) : Prop := zTpM B n M ∧ q ≤ n ∧ M.1 66 7 = nI q
def zFm (M M' : ZM) : Prop := zFr [66, 73] M M' ∧ ∀ k, k ≠ 7 → k ≠ 8 → k ≠ 9 → M'.1 66 k = M.1 66 k
def zDr (T : Nat → Nat) (M : ZM) : Prop := ∀ k, k < 41 → M.1 73 k = nI (T k)
def zbv (B : Nat → Nat) (n q : Nat) : Int32 := if n ≤ q then -1 else nI (B q)
def zOutM {α : Type} (M0 : ZM) (x : (Nat × Nat) ⊕ α) (ok : α → ZM → Prop) (r : Int32) (M' : ZM) : Prop := match x with
  | .inl e => r = 0 ∧ zFm M0 M' ∧ M'.1 66 9 = nI e.1 ∧ M'.1 66 8 = nI e.2
  | .inr a => r = 1 ∧ zFm M0 M' ∧ ok a M'
section ZX57
variable {d : Nat} {M M0 Mk : ZM} {B : Nat → Nat} {n : Nat}
theorem zFm.rf : zFm M M := ⟨zFr.rf, fun _ _ _ _ => rfl⟩
theorem zFm.trans {M1 M2 : ZM} (h1 : zFm M M1) (h2 : zFm M1 M2) : zFm M M2 := ⟨h1.1.trans h2.1, fun k a b c => (h2.2 k a b c).trans (h1.2 k a b c)⟩
theorem zFm.w6 {k : Nat} {v : Int32} (h : zFm M Mk) (hk : k = 7 ∨ k = 8 ∨ k = 9) : zFm M (zw Mk 66 k v) := ⟨h.1.w (by decide), fun j a b c => by rw [zw_nk (by omega)]; exact h.2 j a b c⟩
theorem zFm.w73 {k : Nat} {v : Int32} (h : zFm M Mk) : zFm M (zw Mk 73 k v) := ⟨h.1.w (by decide), fun j a b c => by rw [zw_nc (by decide)]; exact h.2 j a b c⟩
theorem zTpM.fm (h : zTpM B n M) (hf : zFm M Mk) : zTpM B n Mk := ⟨by rw [hf.2 6 (by decide) (by decide) (by decide)]; exact h.1, fun i hi => by rw [(hf.1 71 (by decide)).1]; exact h.2 i hi⟩
theorem zOutM_f {α : Type} {ok : α → ZM → Prop} {e : Nat × Nat} (hf : zFm M0 Mk) (h9 : Mk.1 66 9 = nI e.1) (h8 : Mk.1 66 8 = nI e.2) : zOutM M0 (Sum.inl e : (Nat × Nat) ⊕ α) ok 0 Mk := ⟨rfl, hf, h9, h8⟩
theorem zOutM_t {α : Type} {ok : α → ZM → Prop} {a : α} (hf : zFm M0 Mk) (h : ok a Mk) : zOutM M0 (Sum.inr a : (Nat × Nat) ⊕ α) ok 1 Mk := ⟨rfl, hf, h⟩
theorem zbv_eq (hB : zBy B n) {q s : Nat} (hs : s ≤ 255) : zbv B n q = nI s ↔ B q = s := by
  unfold zbv
  by_cases h : n ≤ q
  · rw [if_pos h, hB.2.2 q h]
    constructor
    · intro g
      have h2 := congrArg Int32.toInt g
      rw [nI_toInt (by omega), show (-1 : Int32).toInt = -1 by decide] at h2
      omega
    · intro g; omega
  · have hb := hB.2.1 q (by omega)
    rw [if_neg h, nI_eq (by omega) (by omega)]
theorem s_byteAt (hd : 1 ≤ d) (hB : zBy B n) (hT : zTpM B n M) {q : Nat} (hq : q ≤ n) : (zenv zbt d).1 154 [.ref 66, .int (nI q)] M = some (zbv B n q, M) := by
  obtain ⟨d, rfl⟩ : ∃ e, d = e + 1 := ⟨d - 1, by omega⟩
  have h120 := hB.1
  unfold zbv
  apply c_X8_byteAt
  apply zL_of; rw [e_X8_byteAt_0, hT.1]
  by_cases h : n ≤ q
  · rw [if_pos (nI_le h (by omega)), if_pos h]; rfl
  · rw [if_neg (nI_ge (by omega) (by omega)), if_neg h, zck_t (zinN (by omega) (by decide)), zcN (by omega), hT.2 q (by omega)]; rfl
theorem s_isFigM (hd : 2 ≤ d) (hB : zBy B n) {q : Nat} : (zenv zbt d).1 155 [.int (zbv B n q)] M = some (zbi (zdg (B q) = true), M) := by
  obtain ⟨d, rfl⟩ : ∃ e, d = e + 1 := ⟨d - 1, by omega⟩
  have hiff : ((48 : Int32) ≤ zbv B n q ∧ zbv B n q ≤ 57) ↔ zdg (B q) = true := by
    unfold zbv
    rw [zdg_iff]
    by_cases h : n ≤ q
    · rw [if_pos h, hB.2.2 q h]
      constructor
      · intro g; exact absurd g (by decide)
      · intro g; omega
    · have hb := hB.2.1 q (by omega)
      rw [if_neg h]
      exact ⟨fun g => ⟨(nI_leI (a := 48) (by decide) (by omega)).mp g.1, (nI_leI (b := 57) (by omega) (by decide)).mp g.2⟩, fun g => ⟨nI_le (a := 48) g.1 (by omega), nI_le (b := 57) g.2 (by decide)⟩⟩
  apply c_X8_isFigure
  apply zL_of; rw [e_X8_isFigure_0, s_in (by omega), Option.bind_some]
  dsimp only
  rw [zck_t zbi_01, zbi_eq hiff]; rfl
theorem s_kindBy (hd : 1 ≤ d) (hB : zBy B n) {q : Nat} : (zenv zbt d).1 159 [.int (zbv B n q)] M = some (nI (zkb (B q)), M) := by
  obtain ⟨d, rfl⟩ : ∃ e, d = e + 1 := ⟨d - 1, by omega⟩
  have t111 : zbv B n q = (111 : Int32) ↔ B q = 111 := zbv_eq hB (s := 111) (by decide)
  have t117 : zbv B n q = (117 : Int32) ↔ B q = 117 := zbv_eq hB (s := 117) (by decide)
  have t100 : zbv B n q = (100 : Int32) ↔ B q = 100 := zbv_eq hB (s := 100) (by decide)
  have t97 : zbv B n q = (97 : Int32) ↔ B q = 97 := zbv_eq hB (s := 97) (by decide)
  have t101 : zbv B n q = (101 : Int32) ↔ B q = 101 := zbv_eq hB (s := 101) (by decide)
  apply c_X8_kindBy
  apply zL_of; rw [e_X8_kindBy_0]
  unfold zkb
  by_cases h1 : B q = 111
  · rw [if_pos (t111.mpr h1), if_pos h1]; rfl
  rw [if_neg (fun g => h1 (t111.mp g)), if_neg h1]
  by_cases h2 : B q = 117
  · rw [if_pos (t117.mpr h2), if_pos h2]; rfl
  rw [if_neg (fun g => h2 (t117.mp g)), if_neg h2]
  by_cases h3 : B q = 100
  · rw [if_pos (t100.mpr h3), if_pos h3]; rfl
  rw [if_neg (fun g => h3 (t100.mp g)), if_neg h3]
  by_cases h4 : B q = 97
  · rw [if_pos (t97.mpr h4), if_pos h4]; rfl
  rw [if_neg (fun g => h4 (t97.mp g)), if_neg h4]
  by_cases h5 : B q = 101
  · rw [if_pos (t101.mpr h5), if_pos h5]; rfl
  rw [if_neg (fun g => h5 (t101.mp g)), if_neg h5]; rfl
theorem s_wrongs (hd : 1 ≤ d) (x : Int32) : (zenv zbt d).1 156 [.ref 66, .int x] M = some (0, zw M 66 9 x) := by
  obtain ⟨d, rfl⟩ : ∃ e, d = e + 1 := ⟨d - 1, by omega⟩
  apply c_X8_wrongs
  apply zL_of; rw [e_X8_wrongs_0]; rfl
theorem s_takesM (hd : 2 ≤ d) (hB : zBy B n) {s q : Nat} (hs : s ≤ 255) (hR : zRM B n M q) : ∃ r M', (zenv zbt d).1 157 [.ref 66, .int (nI s)] M = some (r, M') ∧ zOutM M (zpT B s q) (fun q' M' => zRM B n M' q' ∧ M'.1 73 = M.1 73) r M' := by
  obtain ⟨d, rfl⟩ : ∃ e, d = e + 1 := ⟨d - 1, by omega⟩
  obtain ⟨r1, r2, r3⟩ := hR
  have f0 : zFm M (zw M 66 8 (nI q)) := zFm.rf.w6 (by omega)
  suffices h : zLE (zenv zbt d) tb_X8_takes cu_X8_takes 0 [some (.ref 66), some (.int (nI s))] [] M (zOutM M (zpT B s q) (fun q' M' => zRM B n M' q' ∧ M'.1 73 = M.1 73)) by
    obtain ⟨r, M', h1, h2⟩ := h
    exact ⟨r, M', c_X8_takes h1, h2⟩
  apply zLE_of
  rw [e_X8_takes_0, r3, s_byteAt (by omega) hB (r1.fm f0) r2, Option.bind_some]
  dsimp only
  unfold zpT
  by_cases h : B q = s
  · have hqn : q < n := Nat.lt_of_not_le fun g => by rw [hB.2.2 q g] at h; omega
    rw [if_pos ((zbv_eq hB hs).mpr h), if_pos h, zw_nk (by decide), r3, nI_1]
    exact zPE_ret (zOutM_t (f0.w6 (by omega)) ⟨⟨r1.fm (f0.w6 (by omega)), by omega, zw_eq _ _ _ _⟩, by rw [zw_nc (by decide), zw_nc (by decide)]⟩)
  · rw [if_neg (fun g => h ((zbv_eq hB hs).mp g)), if_neg h, s_wrongs (by omega), Option.bind_some]
    exact zPE_ret (zOutM_f (e := (1, q)) (f0.w6 (by omega)) (zw_eq _ _ _ _) (by rw [zw_nk (by decide), zw_eq]))
def znw (B : Nat → Nat) (q : Nat) (i : Nat) : Int32 := znv B q (min i 2)
theorem s_numM (hd : 3 ≤ d) (hB : zBy B n) {p lo hi q : Nat} (hp : p < 41) (hlo : lo < 2 ^ 31) (hhi : hi < 2 ^ 31) (hR : zRM B n M q) : ∃ r M', (zenv zbt d).1 158 [.ref 66, .int (nI p), .int (nI lo), .int (nI hi)] M = some (r, M') ∧ zOutM M (zpN B lo hi q) (fun v M' => zRM B n M' v.2 ∧ (lo ≤ v.1 ∧ v.1 ≤ hi ∧ v.1 ≤ 99) ∧ M'.1 73 p = nI v.1 ∧ ∀ k, k ≠ p → M'.1 73 k = M.1 73 k) r M' := by
  obtain ⟨d, rfl⟩ : ∃ e, d = e + 1 := ⟨d - 1, by omega⟩
  obtain ⟨r1, r2, r3⟩ := hR
  have h120 := hB.1
  obtain ⟨d1, d2⟩ := zdn_sp hB q
  have hle := zdn_le hB r2
  have key : ∀ i, i ≤ zdn B q → ∀ Mk, zFm M Mk → Mk.1 73 = M.1 73 → Mk.1 66 8 = nI q → Mk.1 66 7 = nI (q + i) → zLE (zenv zbt d) tb_X8_number cu_X8_number 11 [some (.ref 66), some (.int (nI p)), some (.int (nI lo)), some (.int (nI hi)), some (.int (znw B q i))] [] Mk (zOutM M (zpN B lo hi q) (fun v M' => zRM B n M' v.2 ∧ (lo ≤ v.1 ∧ v.1 ≤ hi ∧ v.1 ≤ 99) ∧ M'.1 73 p = nI v.1 ∧ ∀ k, k ≠ p → M'.1 73 k = M.1 73 k)) := by
    apply zup
    · intro Mk hf h73 h8 h7
      apply zLE_of
      rw [e_X8_number_11, h7, s_byteAt (by omega) hB (r1.fm hf) hle, Option.bind_some]
      dsimp only
      rw [s_isFigM (by omega) hB, Option.bind_some]
      dsimp only
      rw [d2, zbi_f (by decide), if_pos rfl, h7, h8, show nI q + 2 = nI (q + 2) from nI_add q 2]
      unfold zpN
      by_cases h0 : zdn B q = 0
      · rw [if_pos (show nI (q + zdn B q) = nI q by rw [h0, Nat.add_zero]), if_pos (Or.inl h0), s_wrongs (by omega), Option.bind_some]
        exact zPE_ret (zOutM_f (e := (1, q)) (hf.w6 (by omega)) (zw_eq _ _ _ _) (by rw [zw_nk (by decide)]; exact h8))
      rw [if_neg (fun g => by have := (nI_eq (by omega) (by omega)).mp g; omega)]
      by_cases h2 : 2 < zdn B q
      · rw [if_neg (nI_ge (by omega) (by omega)), if_pos (Or.inr h2), s_wrongs (by omega), Option.bind_some]
        exact zPE_ret (zOutM_f (e := (1, q)) (hf.w6 (by omega)) (zw_eq _ _ _ _) (by rw [zw_nk (by decide)]; exact h8))
      have h12 : zdn B q = 1 ∨ zdn B q = 2 := by omega
      have hv := zdv_lt hB h12
      have ev : znw B q (zdn B q) = nI (zdv B q) := by
        unfold znw
        rcases h12 with h | h
        · rw [h]; exact znv_1 hB h
        · rw [h]; exact znv_2 hB h
      have hiff : (nI lo ≤ nI (zdv B q) ∧ nI (zdv B q) ≤ nI hi) ↔ (lo ≤ zdv B q ∧ zdv B q ≤ hi) := by rw [nI_leI (by omega) (by omega), nI_leI (by omega) (by omega)]
      rw [if_pos (nI_le (by omega) (by omega)), if_neg (show ¬ (zdn B q = 0 ∨ 2 < zdn B q) by omega), zck_t (zinN hp (by decide)), zcN (by omega), ev, s_in (by omega), Option.bind_some, zbi_eq hiff]
      dsimp only
      by_cases hr : lo ≤ zdv B q ∧ zdv B q ≤ hi
      · rw [zbi_t hr, if_neg zn10, if_pos hr]
        have f2 : zFm M (zw Mk 73 p (nI (zdv B q))) := hf.w73
        exact zPE_ret (zOutM_t f2 ⟨⟨r1.fm f2, hle, by rw [zw_nc (by decide)]; exact h7⟩, ⟨hr.1, hr.2, hv⟩, zw_eq _ _ _ _, fun k hk => by rw [zw_nk hk, h73]⟩)
      · rw [zbi_f hr, if_pos rfl, if_neg hr, s_wrongs (by omega), Option.bind_some]
        dsimp only
        rw [if_pos rfl]
        exact zPE_ret (zOutM_f (e := (2, q)) (hf.w73.w6 (by omega)) (zw_eq _ _ _ _) (by rw [zw_nk (by decide), zw_nc (by decide)]; exact h8))
    · intro i hi2 ih Mk hf h73 h8 h7
      have hx : Mk.1 71 (q + i) = nI (B (q + i)) := (r1.fm hf).2 _ (by omega)
      have ih2 := ih (zw Mk 66 7 (nI (q + (i + 1)))) (hf.w6 (by omega)) (by rw [zw_nc (by decide)]; exact h73) (by rw [zw_nk (by decide)]; exact h8) (zw_eq _ _ _ _)
      apply zLE_of
      rw [e_X8_number_11, h7, s_byteAt (by omega) hB (r1.fm hf) (by omega), Option.bind_some]
      dsimp only
      rw [s_isFigM (by omega) hB, Option.bind_some]
      dsimp only
      rw [d1 i hi2, zbi_t rfl, if_neg zn10, h7, h8, show nI q + 2 = nI (q + 2) from nI_add q 2, nI_1]
      by_cases h2 : 2 ≤ i
      · rw [if_pos (nI_le (by omega) (by omega))]
        have e : znw B q (i + 1) = znw B q i := by unfold znw; rw [Nat.min_eq_right (by omega), Nat.min_eq_right h2]
        rw [e] at ih2
        exact zPE_go ih2
      · rw [if_neg (nI_ge (by omega) (by omega)), zck_t (zinN (by omega) (by decide)), zcN (by omega), hx]
        have e : znw B q (i + 1) = ((10 * znw B q i) + nI (B (q + i))) - 48 := by
          unfold znw
          rw [Nat.min_eq_left (by omega), Nat.min_eq_left (by omega), znv]
        rw [e] at ih2
        exact zPE_go ih2
  obtain ⟨r, M', h1, h2⟩ := key 0 (Nat.zero_le _) (zw M 66 8 (nI q)) (zFm.rf.w6 (by omega)) (by rw [zw_nc (by decide)]) (zw_eq _ _ _ _) (by rw [zw_nk (by decide)]; exact r3)
  refine ⟨r, M', c_X8_number ?_, h2⟩
  apply zL_of; rw [e_X8_number_0, r3]
  exact zPo_go h1
def zL1 (w h o : Nat) : Nat → Nat := fun k => if k = 0 then h else if k = 1 then w else if k = 23 then o else 0
theorem l_lawR (hd : 3 ≤ d) (hB : zBy B n) {w hi q2 : Nat} (hhi : hi ≤ 6) (R3 : zRM B n Mk q2) (F3 : zFm M Mk) (D3 : ∀ k, k < 41 → Mk.1 73 k = nI (if k = 1 then w else 0)) :
    zPE (zenv zbt d) tb_X8_readsLaw cu_X8_readsLaw (((zenv zbt d).1 158 [.ref 66, .int 0, .int 1, .int (nI hi)] Mk).bind fun q4 =>
                  if q4.1 = 0 then
                    (some (.inl (some (.int 0), q4.2)))
                    else
                    (((zenv zbt d).1 157 [.ref 66, .int 44] q4.2).bind fun q5 =>
                      if q5.1 = 0 then
                        (some (.inl (some (.int 0), q5.2)))
                        else
                        (((zenv zbt d).1 158 [.ref 66, .int 23, .int 0, .int 9] q5.2).bind fun q6 =>
                          if q6.1 = 0 then
                            (some (.inl (some (.int 0), q6.2)))
                            else
                            (((zenv zbt d).1 157 [.ref 66, .int 59] q6.2).bind fun q7 =>
                              if q7.1 = 0 then
                                (some (.inl (some (.int 0), q7.2)))
                                else
                                (some (.inl (some (.int 1), q7.2)))))))
      (zOutM M (zbd (zpN B 1 hi q2) fun h => zbd (zpT B 44 h.2) fun q3 => zbd (zpN B 0 9 q3) fun o => zbd (zpT B 59 o.2) fun q4 => (.inr (w, h.1, o.1, q4) : (Nat × Nat) ⊕ (Nat × Nat × Nat × Nat))) (fun v M' => zRM B n M' v.2.2.2 ∧ zDr (zL1 v.1 v.2.1 v.2.2.1) M')) := by
  obtain ⟨r4, M4, e4, o4⟩ := s_numM (d := d) (p := 0) (lo := 1) (hi := hi) hd hB (by decide) (by decide) (by omega) R3
  rw [show (0 : Int32) = nI 0 from rfl, show (1 : Int32) = nI 1 from rfl, e4, Option.bind_some]
  dsimp only
  cases h4 : zpN B 1 hi q2 with
  | inl e =>
    rw [h4] at o4
    obtain ⟨rfl, f4, c9, c8⟩ := o4
    rw [if_pos zn0.symm]
    exact zPE_ret (zOutM_f (F3.trans f4) c9 c8)
  | inr h =>
    rw [h4] at o4
    obtain ⟨rfl, f4, R4, V4, p4, D4⟩ := o4
    rw [if_neg (show ¬ ((1 : Int32) = nI 0) by decide)]
    have F4 := F3.trans f4
    obtain ⟨r5, M5, e5, o5⟩ := s_takesM (d := d) (s := 44) (by omega) hB (by decide) R4
    rw [show (44 : Int32) = nI 44 from rfl, e5, Option.bind_some]
    dsimp only
    show zPE _ _ _ _ (zOutM M (zbd (zpT B 44 h.2) _) _)
    cases h5 : zpT B 44 h.2 with
    | inl e =>
      rw [h5] at o5
      obtain ⟨rfl, f5, c9, c8⟩ := o5
      rw [if_pos zn0.symm]
      exact zPE_ret (zOutM_f (F4.trans f5) c9 c8)
    | inr q3 =>
      rw [h5] at o5
      obtain ⟨rfl, f5, R5, D5⟩ := o5
      rw [if_neg (show ¬ ((1 : Int32) = nI 0) by decide)]
      have F5 := F4.trans f5
      obtain ⟨r6, M6, e6, o6⟩ := s_numM (d := d) (p := 23) (lo := 0) (hi := 9) hd hB (by decide) (by decide) (by decide) R5
      rw [show (23 : Int32) = nI 23 from rfl, show (9 : Int32) = nI 9 from rfl, e6, Option.bind_some]
      dsimp only
      show zPE _ _ _ _ (zOutM M (zbd (zpN B 0 9 q3) _) _)
      cases h6 : zpN B 0 9 q3 with
      | inl e =>
        rw [h6] at o6
        obtain ⟨rfl, f6, c9, c8⟩ := o6
        rw [if_pos zn0.symm]
        exact zPE_ret (zOutM_f (F5.trans f6) c9 c8)
      | inr o =>
        rw [h6] at o6
        obtain ⟨rfl, f6, R6, V6, p6, D6⟩ := o6
        rw [if_neg (show ¬ ((1 : Int32) = nI 0) by decide)]
        have F6 := F5.trans f6
        obtain ⟨r7, M7, e7, o7⟩ := s_takesM (d := d) (s := 59) (by omega) hB (by decide) R6
        rw [show (59 : Int32) = nI 59 from rfl, e7, Option.bind_some]
        dsimp only
        show zPE _ _ _ _ (zOutM M (zbd (zpT B 59 o.2) _) _)
        cases h7 : zpT B 59 o.2 with
        | inl e =>
          rw [h7] at o7
          obtain ⟨rfl, f7, c9, c8⟩ := o7
          rw [if_pos zn0.symm]
          exact zPE_ret (zOutM_f (F6.trans f7) c9 c8)
        | inr q4 =>
          rw [h7] at o7
          obtain ⟨rfl, f7, R7, D7⟩ := o7
          rw [if_neg (show ¬ ((1 : Int32) = nI 0) by decide)]
          refine zPE_ret (zOutM_t (F6.trans f7) ⟨R7, fun k hk => ?_⟩)
          show M7.1 73 k = nI (zL1 w h.1 o.1 k)
          unfold zL1
          rw [D7]
          by_cases k23 : k = 23
          · rw [k23, p6, if_neg (by decide), if_neg (by decide), if_pos rfl]
          rw [D6 k k23, D5]
          by_cases k0 : k = 0
          · rw [k0, p4, if_pos rfl]
          rw [D4 k k0, D3 k hk, if_neg k0]
          by_cases k1 : k = 1
          · rw [if_pos k1, if_pos k1]
          · rw [if_neg k1, if_neg k1, if_neg k23]
theorem s_readsLaw (hd : 4 ≤ d) (hB : zBy B n) (hR : zRM B n M 0) (hD : ∀ k, k < 41 → M.1 73 k = 0) : ∃ r M', (zenv zbt d).1 160 [.ref 66] M = some (r, M') ∧ zOutM M (zlaw B) (fun v M' => zRM B n M' v.2.2.2 ∧ zDr (zL1 v.1 v.2.1 v.2.2.1) M') r M' := by
  obtain ⟨d, rfl⟩ : ∃ e, d = e + 1 := ⟨d - 1, by omega⟩
  suffices h : zLE (zenv zbt d) tb_X8_readsLaw cu_X8_readsLaw 0 [some (.ref 66), none] [] M (zOutM M (zlaw B) (fun v M' => zRM B n M' v.2.2.2 ∧ zDr (zL1 v.1 v.2.1 v.2.2.1) M')) by
    obtain ⟨r, M', h1, h2⟩ := h
    exact ⟨r, M', c_X8_readsLaw h1, h2⟩
  apply zLE_of
  unfold zlaw
  obtain ⟨r1, M1, e1, o1⟩ := s_takesM (d := d) (s := 119) (by omega) hB (by decide) hR
  rw [e_X8_readsLaw_0, show (119 : Int32) = nI 119 from rfl, e1, Option.bind_some]
  dsimp only
  cases h1 : zpT B 119 0 with
  | inl e =>
    rw [h1] at o1
    obtain ⟨rfl, f1, c9, c8⟩ := o1
    rw [if_pos rfl]
    exact zPE_ret (zOutM_f f1 c9 c8)
  | inr q1 =>
    rw [h1] at o1
    obtain ⟨rfl, f1, R1, D1⟩ := o1
    rw [if_neg zn10]
    obtain ⟨r2, M2, e2, o2⟩ := s_numM (d := d) (p := 1) (lo := 1) (hi := 6) (by omega) hB (by decide) (by decide) (by decide) R1
    rw [show (1 : Int32) = nI 1 from rfl, show (6 : Int32) = nI 6 from rfl, e2, Option.bind_some]
    dsimp only
    show zPE _ _ _ _ (zOutM M (zbd (zpN B 1 6 q1) _) _)
    cases h2 : zpN B 1 6 q1 with
    | inl e =>
      rw [h2] at o2
      obtain ⟨rfl, f2, c9, c8⟩ := o2
      rw [if_pos rfl]
      exact zPE_ret (zOutM_f (f1.trans f2) c9 c8)
    | inr w =>
      rw [h2] at o2
      obtain ⟨rfl, f2, R2, ⟨w1, w2, w3⟩, p2, D2⟩ := o2
      rw [if_neg zn10]
      obtain ⟨r3, M3, e3, o3⟩ := s_takesM (d := d) (s := 44) (by omega) hB (by decide) R2
      rw [show (44 : Int32) = nI 44 from rfl, e3, Option.bind_some]
      dsimp only
      show zPE _ _ _ _ (zOutM M (zbd (zpT B 44 w.2) _) _)
      cases h3 : zpT B 44 w.2 with
      | inl e =>
        rw [h3] at o3
        obtain ⟨rfl, f3, c9, c8⟩ := o3
        rw [if_pos rfl]
        exact zPE_ret (zOutM_f ((f1.trans f2).trans f3) c9 c8)
      | inr q2 =>
        rw [h3] at o3
        obtain ⟨rfl, f3, R3, D3⟩ := o3
        have F3 := (f1.trans f2).trans f3
        have p3 : M3.1 73 1 = nI w.1 := by rw [D3]; exact p2
        have hD3 : ∀ k, k < 41 → M3.1 73 k = nI (if k = 1 then w.1 else 0) := fun k hk => by
          by_cases g : k = 1
          · rw [if_pos g, g]; exact p3
          · rw [if_neg g, D3, D2 k g, D1, hD k hk]; rfl
        rw [if_neg zn10, p3, zck_t (by rw [decide_eq_false (nI_ne0 (by omega) (by omega))]; rfl), show (10 : Int32) / nI w.1 = nI (10 / w.1) from pk_div (a := 10) (by decide) (by omega) (by omega)]
        have hdv := Nat.div_le_self 10 w.1
        show zPE _ _ _ _ (zOutM M (zbd (zpN B 1 (min 6 (10 / w.1)) q2) _) _)
        by_cases h6 : 6 ≤ 10 / w.1
        · rw [if_pos (nI_le h6 (by omega)), Nat.min_eq_left h6]
          exact l_lawR (by omega) hB (by omega) R3 F3 hD3
        · rw [if_neg (nI_ge (by omega) (by decide)), Nat.min_eq_right (by omega)]
          exact l_lawR (by omega) hB (by omega) R3 F3 hD3
end ZX57

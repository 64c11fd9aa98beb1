/-! who -/
def zfK (S : Nat → Nat) (c : Nat) (cs : Nat → Nat) (vs : Nat → Int32) (n v : Nat) : Nat := if v ≠ 0 ∧ zall (zso (zup2 S c v (S (31 + c))) cs vs) n = true then 2 ^ v else 0
def zfV (S : Nat → Nat) (c : Nat) (cs : Nat → Nat) (vs : Nat → Int32) (n v : Nat) : Nat := if zall (zso (zup2 S c (S (3 + c)) v) cs vs) n = true then 2 ^ v else 0
section ZX47
variable {d : Nat} {M : ZM} {S T : Nat → Nat} {b c : Nat}
theorem zSheet.val (hW : zwf T) (hc : c < 10) (hS : zSheet T b M) (v : Nat) : zSheet (zup2 T c (T (3 + c)) v) b (zw M (b + 3) c (nI v)) := by
  have hn := hW.n
  have hm := hW.m
  have lo : ∀ k, k < 31 → zup2 T c (T (3 + c)) v k = T k := fun k hk => by
    unfold zup2
    by_cases e : k = 3 + c
    · rw [if_pos e, e]
    · rw [if_neg e, if_neg (by omega)]
  obtain ⟨s0, s1, s2, s3, s4, s5, s6, s7, s8, s9⟩ := id hS
  refine hS.mk' hn (fun k hk => lo k (by omega)) ?_ ?_ ?_ ?_ ?_ ?_ ?_ ?_ ?_ ?_ ?_ ?_ (fun i hi => ?_) (fun i hi h5 => ?_) hm
  · rw [zw_nc (by omega)]
  · rw [zw_nc (by omega)]
  · rw [zw_nc (by omega)]
  · rw [zw_nc (by omega)]
  · rw [zw_nc (by omega), lo 23 (by omega)]; exact s3
  · rw [zw_nc (by omega), lo 24 (by omega)]; exact s4
  · rw [zw_nc (by omega), zon_up2 hc]; exact s5
  · rw [zw_nc (by omega), lo 25 (by omega)]; exact s6
  · rw [zw_nc (by omega)]
  · rw [zw_nc (by omega)]
  · rw [zw_nc (by omega)]
  · rw [zw_nc (by omega)]
  · rw [zup2_v hc]
    by_cases q : i = c
    · rw [q, if_pos rfl, zw_eq]
    · rw [if_neg q, zw_nk q]; exact (s8 i hi).2.2
  · rw [zw_nc (by omega), lo (26 + i) (by omega)]; exact (s9 i hi).2.2
theorem s_kinds (hd : 5 ≤ d) (hW : zwf S) (hS : zSheet S 20 M) (hc : c < S 0) {n : Nat} {cs : Nat → Nat} {vs : Nat → Int32} (hn : n ≤ 10) (hT : zTld M n cs vs) (hcs : ∀ k, k < n → cs k < 10) : ∃ M', (zenv zbt d).1 137 [.ref 0, .int (nI c)] M = some (nI (zors (zfK S c cs vs n) 6), M') ∧ zFr [27, 28, 29, 30, 31, 32, 33] M M' := by
  obtain ⟨d, rfl⟩ : ∃ e, d = e + 1 := ⟨d - 1, by omega⟩
  have hn10 := hW.n
  have hv9 := (hW.2.2.2.1 c hc).2.2
  obtain ⟨M1, e1, f1, g1⟩ := s_become (d := d) (b := 27) (b1 := 20) (by omega) (by unfold zbc; omega) hW hS
  have key : ∀ v, v ≤ 6 → 1 ≤ v → ∀ Mk k0, zFr [27, 28, 29, 30, 31, 32, 33] M Mk → 1 ≤ k0 → k0 ≤ 5 → zSheet (zup2 S c k0 (S (31 + c))) 27 Mk → ∃ M', zL (zenv zbt d) tb_X7_kindsThatFit cu_X7_kindsThatFit 15 [some (.ref 0), some (.int (nI c)), some (.int (nI (zors (zfK S c cs vs n) v))), some (.int (nI v))] [] Mk (some (.int (nI (zors (zfK S c cs vs n) 6))), M') ∧ zFr [27, 28, 29, 30, 31, 32, 33] M M' := by
    apply zup
    · intro _ Mk k0 hf _ _ _
      refine ⟨Mk, ?_, hf⟩
      apply zL_of; rw [e_X7_kindsThatFit_15, if_pos (by decide)]; rfl
    · intro v hv ih h1 Mk k0 hf hk1 hk5 hSk
      have hWk := hW.up2 (c := c) (k := k0) (v := S (31 + c)) (by omega) hk1 hk5 hv9
      have hWv := hW.up2 (c := c) (k := v) (v := S (31 + c)) (by omega) h1 (by omega) hv9
      obtain ⟨M2, e2, f2, g2⟩ := s_putS (d := d) (b := 27) (k := v) (v := S (31 + c)) (by omega) (Or.inr rfl) hWk hSk (by rw [zup2_o (by omega) (by omega)]; exact hc) (by omega)
      rw [zup2_2] at g2
      have f12 : zFr [27, 28, 29, 30, 31, 32, 33] M M2 := hf.trans (f2.mono (by decide))
      have hT2 : zTld M2 n cs vs := hT.fr f12 (by decide) (by decide) (by decide)
      have e3 := s_isSoC (d := d) (by omega) (Or.inr rfl) hWv g2 hn hT2 hcs
      obtain ⟨M', h1', h2'⟩ := ih (by omega) M2 v f12 h1 (by omega) g2
      refine ⟨M', ?_, h2'⟩
      rw [zors] at h1'
      apply zL_of; rw [e_X7_kindsThatFit_15, if_neg (show ¬ ((6 : Int32) ≤ nI v) from nI_ge hv (by decide)), zck_t (zinN (by omega) (by decide)), zcN (by omega), (hf 23 (by decide)).1, (hS.2.2.2.2.2.2.2.2.1 c hc).2.2, e2, Option.bind_some, e3, Option.bind_some]
      dsimp only
      by_cases q : zall (zso (zup2 S c v (S (31 + c))) cs vs) n = true
      · rw [zbi_t q, if_neg zn10, show zshl 1 (nI v) = nI (2 ^ v) from zshl1 (by omega), zor, nI_1]
        have : zfK S c cs vs n v = 2 ^ v := by unfold zfK; rw [if_pos ⟨by omega, q⟩]
        rw [this] at h1'
        exact zPo_go h1'
      · rw [zbi_f q, if_pos rfl, show (0 : Int32) = nI 0 from rfl, zor, nI_1]
        have : zfK S c cs vs n v = 0 := by unfold zfK; rw [if_neg (fun q2 => q q2.2)]
        rw [this] at h1'
        exact zPo_go h1'
  have hk := hW.2.2.2.1 c hc
  obtain ⟨M', h1, h2⟩ := key 1 (by omega) (by omega) M1 (S (3 + c)) (f1.mono (by decide)) hk.1 hk.2.1 (by rw [zup2_i]; exact g1)
  refine ⟨M', ?_, h2⟩
  have e0 : zors (zfK S c cs vs n) 1 = 0 := by simp [zors, zfK]
  rw [e0] at h1
  apply c_X7_kindsThatFit
  apply zL_of; rw [e_X7_kindsThatFit_0, e1, Option.bind_some]
  exact zPo_go h1
theorem s_values (hd : 5 ≤ d) (hW : zwf S) (hS : zSheet S 20 M) (hc : c < S 0) {n : Nat} {cs : Nat → Nat} {vs : Nat → Int32} (hn : n ≤ 10) (hT : zTld M n cs vs) (hcs : ∀ k, k < n → cs k < 10) : ∃ M', (zenv zbt d).1 138 [.ref 0, .int (nI c)] M = some (nI (zors (zfV S c cs vs n) 10), M') ∧ zFr [27, 28, 29, 30, 31, 32, 33] M M' := by
  obtain ⟨d, rfl⟩ : ∃ e, d = e + 1 := ⟨d - 1, by omega⟩
  have hn10 := hW.n
  have hk := hW.2.2.2.1 c hc
  obtain ⟨M1, e1, f1, g1⟩ := s_become (d := d) (b := 27) (b1 := 20) (by omega) (by unfold zbc; omega) hW hS
  have key : ∀ v, v ≤ 10 → ∀ Mk v0, zFr [27, 28, 29, 30, 31, 32, 33] M Mk → v0 ≤ 9 → zSheet (zup2 S c (S (3 + c)) v0) 27 Mk → ∃ M', zL (zenv zbt d) tb_X7_valuesThatFit cu_X7_valuesThatFit 15 [some (.ref 0), some (.int (nI c)), some (.int (nI (zors (zfV S c cs vs n) v))), some (.int (nI v))] [] Mk (some (.int (nI (zors (zfV S c cs vs n) 10))), M') ∧ zFr [27, 28, 29, 30, 31, 32, 33] M M' := by
    apply zup
    · intro Mk v0 hf _ _
      refine ⟨Mk, ?_, hf⟩
      apply zL_of; rw [e_X7_valuesThatFit_15, if_pos (by decide)]; rfl
    · intro v hv ih Mk v0 hf hv0 hSk
      have hWk := hW.up2 (c := c) (k := S (3 + c)) (v := v0) (by omega) hk.1 hk.2.1 hv0
      have hWv := hW.up2 (c := c) (k := S (3 + c)) (v := v) (by omega) hk.1 hk.2.1 (by omega)
      have g2 := zSheet.val hWk (c := c) (by omega) hSk v
      rw [zup2_k (by omega) (by omega), if_pos rfl, zup2_2] at g2
      have f12 : zFr [27, 28, 29, 30, 31, 32, 33] M (zw Mk (27 + 3) c (nI v)) := hf.w (by decide)
      have hT2 : zTld (zw Mk (27 + 3) c (nI v)) n cs vs := hT.fr f12 (by decide) (by decide) (by decide)
      have e3 := s_isSoC (d := d) (by omega) (Or.inr rfl) hWv g2 hn hT2 hcs
      obtain ⟨M', h1', h2'⟩ := ih _ v f12 (by omega) g2
      refine ⟨M', ?_, h2'⟩
      rw [zors] at h1'
      apply zL_of; rw [e_X7_valuesThatFit_15, if_neg (show ¬ ((9 : Int32) < nI v) from nI_nlt (a := 9) (by omega) (by decide)), zck_t (zinN (by omega) (by decide)), zcN (by omega), e3, Option.bind_some]
      dsimp only
      by_cases q : zall (zso (zup2 S c (S (3 + c)) v) cs vs) n = true
      · rw [zbi_t q, if_neg zn10, show zshl 1 (nI v) = nI (2 ^ v) from zshl1 (by omega), zor, nI_1]
        have : zfV S c cs vs n v = 2 ^ v := by unfold zfV; rw [if_pos q]
        rw [this] at h1'
        exact zPo_go h1'
      · rw [zbi_f q, if_pos rfl, show (0 : Int32) = nI 0 from rfl, zor, nI_1]
        have : zfV S c cs vs n v = 0 := by unfold zfV; rw [if_neg q]
        rw [this] at h1'
        exact zPo_go h1'
  obtain ⟨M', h1, h2⟩ := key 0 (by omega) M1 (S (31 + c)) (f1.mono (by decide)) hk.2.2 (by rw [zup2_i]; exact g1)
  refine ⟨M', ?_, h2⟩
  apply c_X7_valuesThatFit
  apply zL_of; rw [e_X7_valuesThatFit_0, e1, Option.bind_some]
  exact zPo_go h1
/-- the reference's loop over kinds -/
theorem l_whoK (hd : 3 ≤ d) (hW : zwf S) (hM : zMod S M) (hc : c < S 0) {r i o j n : Nat} {cs : Nat → Nat} {vs : Nat → Int32} (hr : r < 8) (ho : o < 8) (hi : i + n ≤ 40) (hj : j + n ≤ 40) (hn : n ≤ 10) (h1 : ∀ k, k < n → M.1 69 (40 * r + i + k) = nI (cs k)) (h2 : ∀ k, k < n → M.1 69 (40 * o + j + k) = vs k) (hcs : ∀ k, k < n → cs k < 10) : ∃ M', zL (zenv zbt d) tb_X8_who cu_X8_who 115 [some (.ref 66), none, some (.int 0), some (.int (nI r)), some (.int (nI i)), some (.int (nI o)), some (.int (nI j)), some (.int (nI n)), none, some (.int (nI (3 + c))), some (.int (nI (S (3 + c)))), some (.int 0), some (.int 1)] [] M (some (.int (nI (zors (zfK S c cs vs n) 6))), M') ∧ zFr [72] M M' ∧ zMod S M' := by
  have hn10 := hW.n
  have hv9 := (hW.2.2.2.1 c hc).2.2
  have hk := hW.2.2.2.1 c hc
  have key : ∀ v, v ≤ 6 → 1 ≤ v → ∀ Mk k0, zFr [72] M Mk → zMod (zup2 S c k0 (S (31 + c))) Mk → ∃ M', zL (zenv zbt d) tb_X8_who cu_X8_who 115 [some (.ref 66), none, some (.int 0), some (.int (nI r)), some (.int (nI i)), some (.int (nI o)), some (.int (nI j)), some (.int (nI n)), none, some (.int (nI (3 + c))), some (.int (nI (S (3 + c)))), some (.int (nI (zors (zfK S c cs vs n) v))), some (.int (nI v))] [] Mk (some (.int (nI (zors (zfK S c cs vs n) 6))), M') ∧ zFr [72] M M' ∧ zMod S M' := by
    have up : ∀ k0 w, ∀ k, k ≠ 3 + c → zup2 S c w (S (31 + c)) k = zup2 S c k0 (S (31 + c)) k := fun k0 w k hk => by
      unfold zup2
      rw [if_neg hk, if_neg hk]
    apply zup
    · intro _ Mk k0 hf hMk
      refine ⟨zw Mk 72 (3 + c) (nI (S (3 + c))), ?_, hf.w (by decide), ?_⟩
      · apply zL_of; rw [e_X8_who_115, if_pos rfl, if_pos (by decide), zck_t (zinN (by omega) (by decide)), zcN (by omega)]; rfl
      · have := hMk.wr (T := zup2 S c (S (3 + c)) (S (31 + c))) (p := 3 + c) (v := S (3 + c)) (by omega) (by rw [zup2_k (by omega) (by omega), if_pos rfl]) (up k0 _)
        rw [zup2_i] at this
        exact this
    · intro v hv ih h1v Mk k0 hf hMk
      have hWv := hW.up2 (c := c) (k := v) (v := S (31 + c)) (by omega) h1v (by omega) hv9
      have hM2 := hMk.wr (T := zup2 S c v (S (31 + c))) (p := 3 + c) (v := v) (by omega) (by rw [zup2_k (by omega) (by omega), if_pos rfl]) (up k0 _)
      have f2 : zFr [72] M (zw Mk 72 (3 + c) (nI v)) := hf.w (by decide)
      have e3 := s_isSoM (d := d) hd hWv hM2 hr ho hi hj hn (cs := cs) (vs := vs) (fun k hk => by rw [(f2 69 (by decide)).1]; exact h1 k hk) (fun k hk => by rw [(f2 69 (by decide)).1]; exact h2 k hk) hcs
      obtain ⟨M', h1', h2'⟩ := ih (by omega) _ v f2 hM2
      refine ⟨M', ?_, h2'⟩
      rw [zors] at h1'
      apply zL_of; rw [e_X8_who_115, if_pos rfl, if_neg (show ¬ ((6 : Int32) ≤ nI v) from nI_ge hv (by decide)), zck_t (zinN (by omega) (by decide)), zcN (by omega), e3, Option.bind_some]
      dsimp only
      by_cases q : zall (zso (zup2 S c v (S (31 + c))) cs vs) n = true
      · rw [zbi_t q, if_neg zn10, show zshl 1 (nI v) = nI (2 ^ v) from zshl1 (by omega), zor, nI_1]
        have : zfK S c cs vs n v = 2 ^ v := by unfold zfK; rw [if_pos ⟨by omega, q⟩]
        rw [this] at h1'
        exact zPo_go h1'
      · rw [zbi_f q, if_pos rfl, nI_1]
        have : zfK S c cs vs n v = 0 := by unfold zfK; rw [if_neg (fun q2 => q q2.2)]
        rw [this, ← zor] at h1'
        exact zPo_go h1'
  obtain ⟨M', g1, g2⟩ := key 1 (by omega) (by omega) M (S (3 + c)) zFr.rf (by rw [zup2_i]; exact hM)
  have e0 : zors (zfK S c cs vs n) 1 = 0 := by simp [zors, zfK]
  rw [e0] at g1
  exact ⟨M', g1, g2⟩
theorem l_whoV (hd : 3 ≤ d) (hW : zwf S) (hM : zMod S M) (hc : c < S 0) {r i o j n : Nat} {cs : Nat → Nat} {vs : Nat → Int32} (hr : r < 8) (ho : o < 8) (hi : i + n ≤ 40) (hj : j + n ≤ 40) (hn : n ≤ 10) (h1 : ∀ k, k < n → M.1 69 (40 * r + i + k) = nI (cs k)) (h2 : ∀ k, k < n → M.1 69 (40 * o + j + k) = vs k) (hcs : ∀ k, k < n → cs k < 10) : ∃ M', zL (zenv zbt d) tb_X8_who cu_X8_who 115 [some (.ref 66), none, some (.int 1), some (.int (nI r)), some (.int (nI i)), some (.int (nI o)), some (.int (nI j)), some (.int (nI n)), none, some (.int (nI (31 + c))), some (.int (nI (S (31 + c)))), some (.int 0), some (.int 0)] [] M (some (.int (nI (zors (zfV S c cs vs n) 10))), M') ∧ zFr [72] M M' ∧ zMod S M' := by
  have hn10 := hW.n
  have hk := hW.2.2.2.1 c hc
  have key : ∀ v, v ≤ 10 → ∀ Mk v0, zFr [72] M Mk → zMod (zup2 S c (S (3 + c)) v0) Mk → ∃ M', zL (zenv zbt d) tb_X8_who cu_X8_who 115 [some (.ref 66), none, some (.int 1), some (.int (nI r)), some (.int (nI i)), some (.int (nI o)), some (.int (nI j)), some (.int (nI n)), none, some (.int (nI (31 + c))), some (.int (nI (S (31 + c)))), some (.int (nI (zors (zfV S c cs vs n) v))), some (.int (nI v))] [] Mk (some (.int (nI (zors (zfV S c cs vs n) 10))), M') ∧ zFr [72] M M' ∧ zMod S M' := by
    have up : ∀ v0 w, ∀ k, k ≠ 31 + c → zup2 S c (S (3 + c)) w k = zup2 S c (S (3 + c)) v0 k := fun k0 w k hk => by
      unfold zup2
      rw [if_neg hk, if_neg hk]
    apply zup
    · intro Mk v0 hf hMk
      refine ⟨zw Mk 72 (31 + c) (nI (S (31 + c))), ?_, hf.w (by decide), ?_⟩
      · apply zL_of; rw [e_X8_who_115, if_neg zn10, if_pos (by decide), zck_t (zinN (by omega) (by decide)), zcN (by omega)]; rfl
      · have := hMk.wr (T := zup2 S c (S (3 + c)) (S (31 + c))) (p := 31 + c) (v := S (31 + c)) (by omega) (by rw [zup2_v (by omega), if_pos rfl]) (up v0 _)
        rw [zup2_i] at this
        exact this
    · intro v hv ih Mk v0 hf hMk
      have hWv := hW.up2 (c := c) (k := S (3 + c)) (v := v) (by omega) hk.1 hk.2.1 (by omega)
      have hM2 := hMk.wr (T := zup2 S c (S (3 + c)) v) (p := 31 + c) (v := v) (by omega) (by rw [zup2_v (by omega), if_pos rfl]) (up v0 _)
      have f2 : zFr [72] M (zw Mk 72 (31 + c) (nI v)) := hf.w (by decide)
      have e3 := s_isSoM (d := d) hd hWv hM2 hr ho hi hj hn (cs := cs) (vs := vs) (fun k hk => by rw [(f2 69 (by decide)).1]; exact h1 k hk) (fun k hk => by rw [(f2 69 (by decide)).1]; exact h2 k hk) hcs
      obtain ⟨M', h1', h2'⟩ := ih _ v f2 hM2
      refine ⟨M', ?_, h2'⟩
      rw [zors] at h1'
      apply zL_of; rw [e_X8_who_115, if_neg zn10, if_neg (show ¬ ((10 : Int32) ≤ nI v) from nI_ge hv (by decide)), zck_t (zinN (by omega) (by decide)), zcN (by omega), e3, Option.bind_some]
      dsimp only
      by_cases q : zall (zso (zup2 S c (S (3 + c)) v) cs vs) n = true
      · rw [zbi_t q, if_neg zn10, show zshl 1 (nI v) = nI (2 ^ v) from zshl1 (by omega), zor, nI_1]
        have : zfV S c cs vs n v = 2 ^ v := by unfold zfV; rw [if_pos q]
        rw [this] at h1'
        exact zPo_go h1'
      · rw [zbi_f q, if_pos rfl, nI_1]
        have : zfV S c cs vs n v = 0 := by unfold zfV; rw [if_neg q]
        rw [this, ← zor] at h1'
        exact zPo_go h1'
  obtain ⟨M', g1, g2⟩ := key 0 (by omega) M (S (31 + c)) zFr.rf (by rw [zup2_i]; exact hM)
  exact ⟨M', g1, g2⟩
theorem z110 {n : Int32} (h : (1 : Int32) ≤ n ∧ n ≤ 10) : ∃ k, k ≤ 10 ∧ n = nI k := zi_of (n := 10) (by decide) (Int32.le_trans (by decide) h.1) h.2
theorem a_who (hI : zInv S M) (x y r i o j n : Int32) : zAl 108 214 [.int x, .int y, .int r, .int i, .int o, .int j, .int n] M := by
  intro d hd
  obtain ⟨d, rfl⟩ : ∃ e, d = e + 1 := ⟨d - 1, by omega⟩
  have hn10 := hI.wf.n
  cases hz : zin x (S 0)
  · refine ⟨-1000001, M, M, S, ?_, ?_, hI⟩
    · apply c_X7_who
      apply zL_of; rw [e_X7_who_0, s_isCellC (by omega) hI, Option.bind_some]
      dsimp only
      rw [hz, zbi_f (by decide), if_pos rfl]; rfl
    · apply c_X8_who
      apply zL_of; rw [e_X8_who_0, s_isCellM (by omega) hI, Option.bind_some]
      dsimp only
      rw [hz, zbi_f (by decide), if_pos rfl]; rfl
  cases hy : zin y 2
  · refine ⟨-1000001, M, M, S, ?_, ?_, hI⟩
    · apply c_X7_who
      apply zL_of; rw [e_X7_who_0, s_isCellC (by omega) hI, Option.bind_some]
      dsimp only
      rw [hz, zbi_t rfl, if_neg zn10, s_isEitherC (by omega), Option.bind_some]
      dsimp only
      rw [hy, zbi_f (by decide), if_pos rfl]; rfl
    · apply c_X8_who
      apply zL_of; rw [e_X8_who_0, s_isCellM (by omega) hI, Option.bind_some]
      dsimp only
      rw [hz, zbi_t rfl, if_neg zn10, s_in (by omega), Option.bind_some, zbi_eq zgm2]
      dsimp only
      rw [hy, zbi_f (by decide), if_pos rfl]; rfl
  by_cases hg : zin r 8 = true ∧ zin o 8 = true ∧ 1 ≤ n ∧ n ≤ 10
  · obtain ⟨c, hc, rfl⟩ := (zin_iff (by omega)).mp hz
    obtain ⟨g1, g2, g3⟩ := id hg
    obtain ⟨r, hr, rfl⟩ := (zin_iff (by decide)).mp g1
    obtain ⟨o, ho, rfl⟩ := (zin_iff (by decide)).mp g2
    obtain ⟨n, hn, rfl⟩ := z110 g3
    obtain ⟨R1, hR1⟩ := (hI.rw r hr).rd
    obtain ⟨R2, hR2⟩ := (hI.rw o ho).rd
    obtain ⟨M1, e1, f1, t1⟩ := s_takeTold (d := d) (by omega) hr ho hn hR1 hR2 hn10 hI.sh.2.1 i j
    have hI1 := hI.fr (f1.mono (by decide))
    by_cases hf : zfnd R1 R2 (fun k => M.1 69 (40 * r + i.toNatClampNeg + k)) (S 0) i j n = 0
    · have hT := t1 hf
      obtain ⟨i', j', m, rfl, hi', rfl, hj', hm⟩ := zfnd_0 hn hR1 hR2 hf
      rw [zcN (show i' < 2 ^ 31 by omega)] at e1 hT hm
      rw [zcN (show j' < 2 ^ 31 by omega)] at hT
      rw [zcN (show i' < 2 ^ 31 by omega)] at hf
      rw [hf] at e1
      have hcs : ∀ k, k < n → (M.1 69 (40 * r + i' + k)).toNatClampNeg < 10 ∧ M.1 69 (40 * r + i' + k) = nI (M.1 69 (40 * r + i' + k)).toNatClampNeg := fun k hk => by
        obtain ⟨c, hc1, hc2⟩ := (zin_iff (by omega)).mp ((zmx_ok hn10 hm).2 k hk)
        rw [hc2, zcN (by omega)]
        exact ⟨by omega, rfl⟩
      have hRd : ∀ {M2 : ZM}, zFr [0, 27, 28, 29, 30, 31, 32, 33, 63, 64, 65, 66] M M2 → zRd M2 r R1 ∧ zRd M2 o R2 := fun h => ⟨hR1.fr hr h (fun c c1 c2 => by simp; omega) (by decide) (by decide), hR2.fr ho h (fun c c1 c2 => by simp; omega) (by decide) (by decide)⟩
      by_cases hy0 : y = 0
      · subst hy0
        obtain ⟨M2, e2, f2⟩ := s_kinds (d := d) (by omega) hI.wf hI1.sh hc hn hT (fun k hk => (hcs k hk).1)
        have hI2 := hI1.fr (f2.mono (by decide))
        have hI3 := hI2.st 0
        have fa : zFr [0, 27, 28, 29, 30, 31, 32, 33, 63, 64, 65, 66] M (zw M2 0 9 0) := ((f1.mono (by decide)).trans (f2.mono (by decide))).w (by decide)
        have fb : zFr [0, 27, 28, 29, 30, 31, 32, 33, 63, 64, 65, 66] M (zw (zw M2 0 9 0) 66 4 0) := fa.w (by decide)
        obtain ⟨M3, e3, f3, hM3⟩ := l_whoK (d := d) (by omega) hI.wf hI3.md hc hr ho hi' hj' hn (cs := fun k => (M.1 69 (40 * r + i' + k)).toNatClampNeg) (vs := fun k => M.1 69 (40 * o + j' + k)) (fun k hk => by rw [(fb 69 (by decide)).1]; exact (hcs k hk).2) (fun k hk => by rw [(fb 69 (by decide)).1]) (fun k hk => (hcs k hk).1)
        refine ⟨nI (zors (zfK S c (fun k => (M.1 69 (40 * r + i' + k)).toNatClampNeg) (fun k => M.1 69 (40 * o + j' + k)) n) 6), zw M2 0 9 0, M3, S, ?_, ?_, hI3.up72 f3 hM3⟩
        · apply c_X7_who
          apply zL_of; rw [e_X7_who_0, s_isCellC (by omega) hI, Option.bind_some]
          dsimp only
          rw [hz, zbi_t rfl, if_neg zn10, s_isEitherC (by omega), Option.bind_some]
          dsimp only
          rw [hy, zbi_t rfl, if_neg zn10, s_areRows (by omega), Option.bind_some]
          dsimp only
          rw [zbi_t hg, if_neg zn10, e1, Option.bind_some]
          dsimp only
          rw [if_pos zn0, if_pos rfl, e2, Option.bind_some]
          dsimp only
          rw [s_fine (by omega), Option.bind_some]; rfl
        · have hM2 : zMod S (zw M2 0 9 0) := hI2.md.fr (zFr.rf.w (cs := [0]) (by decide)) (by decide) (by decide)
          have e4 := s_findingOf (d := d) (by omega) hI.wf hM2 hr ho hn (hRd fa).1 (hRd fa).2 (nI i') (nI j')
          rw [zcN (show i' < 2 ^ 31 by omega), (fa 69 (by decide)).1, hf] at e4
          apply c_X8_who
          apply zL_of; rw [e_X8_who_0, s_isCellN (by omega) hI.wf hM2, Option.bind_some]
          dsimp only
          rw [hz, zbi_t rfl, if_neg zn10, s_in (by omega), Option.bind_some, zbi_eq zgm2]
          dsimp only
          rw [hy, zbi_t rfl, if_neg zn10, s_isRowM (by omega), Option.bind_some]
          dsimp only
          rw [g1, zbi_t rfl, if_neg zn10, s_isRowM (by omega), Option.bind_some]
          dsimp only
          rw [g2, zbi_t rfl, if_neg zn10, s_in (by omega), Option.bind_some]
          dsimp only
          rw [zbi_t g3, if_neg zn10, e4, Option.bind_some]
          dsimp only
          rw [if_pos (by decide), if_pos rfl, show (3 : Int32) + nI c = nI (3 + c) from nI_add 3 c, zck_t (zinN (by omega) (by decide)), if_pos rfl, zcN (by omega), hM2.1 (3 + c) (by omega)]
          exact zPo_go e3
      · have hy1 : y = 1 := by
          obtain ⟨w, hw, rfl⟩ := (zin_iff (by decide)).mp hy
          have : w = 1 := by
            have : ¬ w = 0 := fun q => hy0 (by rw [q]; rfl)
            omega
          rw [this]; rfl
        subst hy1
        obtain ⟨M2, e2, f2⟩ := s_values (d := d) (by omega) hI.wf hI1.sh hc hn hT (fun k hk => (hcs k hk).1)
        have hI2 := hI1.fr (f2.mono (by decide))
        have hI3 := hI2.st 0
        have fa : zFr [0, 27, 28, 29, 30, 31, 32, 33, 63, 64, 65, 66] M (zw M2 0 9 0) := ((f1.mono (by decide)).trans (f2.mono (by decide))).w (by decide)
        have fb : zFr [0, 27, 28, 29, 30, 31, 32, 33, 63, 64, 65, 66] M (zw (zw M2 0 9 0) 66 4 0) := fa.w (by decide)
        obtain ⟨M3, e3, f3, hM3⟩ := l_whoV (d := d) (by omega) hI.wf hI3.md hc hr ho hi' hj' hn (cs := fun k => (M.1 69 (40 * r + i' + k)).toNatClampNeg) (vs := fun k => M.1 69 (40 * o + j' + k)) (fun k hk => by rw [(fb 69 (by decide)).1]; exact (hcs k hk).2) (fun k hk => by rw [(fb 69 (by decide)).1]) (fun k hk => (hcs k hk).1)
        refine ⟨nI (zors (zfV S c (fun k => (M.1 69 (40 * r + i' + k)).toNatClampNeg) (fun k => M.1 69 (40 * o + j' + k)) n) 10), zw M2 0 9 0, M3, S, ?_, ?_, hI3.up72 f3 hM3⟩
        · apply c_X7_who
          apply zL_of; rw [e_X7_who_0, s_isCellC (by omega) hI, Option.bind_some]
          dsimp only
          rw [hz, zbi_t rfl, if_neg zn10, s_isEitherC (by omega), Option.bind_some]
          dsimp only
          rw [hy, zbi_t rfl, if_neg zn10, s_areRows (by omega), Option.bind_some]
          dsimp only
          rw [zbi_t hg, if_neg zn10, e1, Option.bind_some]
          dsimp only
          rw [if_pos zn0, if_neg zn10, e2, Option.bind_some]
          dsimp only
          rw [s_fine (by omega), Option.bind_some]; rfl
        · have hM2 : zMod S (zw M2 0 9 0) := hI2.md.fr (zFr.rf.w (cs := [0]) (by decide)) (by decide) (by decide)
          have e4 := s_findingOf (d := d) (by omega) hI.wf hM2 hr ho hn (hRd fa).1 (hRd fa).2 (nI i') (nI j')
          rw [zcN (show i' < 2 ^ 31 by omega), (fa 69 (by decide)).1, hf] at e4
          apply c_X8_who
          apply zL_of; rw [e_X8_who_0, s_isCellN (by omega) hI.wf hM2, Option.bind_some]
          dsimp only
          rw [hz, zbi_t rfl, if_neg zn10, s_in (by omega), Option.bind_some, zbi_eq zgm2]
          dsimp only
          rw [hy, zbi_t rfl, if_neg zn10, s_isRowM (by omega), Option.bind_some]
          dsimp only
          rw [g1, zbi_t rfl, if_neg zn10, s_isRowM (by omega), Option.bind_some]
          dsimp only
          rw [g2, zbi_t rfl, if_neg zn10, s_in (by omega), Option.bind_some]
          dsimp only
          rw [zbi_t g3, if_neg zn10, e4, Option.bind_some]
          dsimp only
          rw [if_pos (by decide), if_neg zn10, show (31 : Int32) + nI c = nI (31 + c) from nI_add 31 c, zck_t (zinN (by omega) (by decide)), if_neg zn10, zcN (by omega), hM2.1 (31 + c) (by omega)]
          exact zPo_go e3
    · have hf6 := zfnd_lt (R1 := R1) (R2 := R2) (it := fun k => M.1 69 (40 * r + i.toNatClampNeg + k)) (N := S 0) (n := n) (i := i) (j := j)
      have fa : zFr [0, 63, 64, 65] M (zw M1 0 9 (nI (zfnd R1 R2 (fun k => M.1 69 (40 * r + i.toNatClampNeg + k)) (S 0) i j n))) := (f1.mono (by decide)).w (by decide)
      have e4 := s_findingOf (d := d) (by omega) hI.wf (hI.md.fr fa (by decide) (by decide)) hr ho hn (hR1.fr hr fa (fun c c1 c2 => by simp; omega) (by decide) (by decide)) (hR2.fr ho fa (fun c c1 c2 => by simp; omega) (by decide) (by decide)) i j
      rw [(fa 69 (by decide)).1] at e4
      have hM2 := hI.md.fr fa (by decide) (by decide)
      generalize zfnd R1 R2 (fun k => M.1 69 (40 * r + i.toNatClampNeg + k)) (S 0) i j n = f at *
      refine ⟨-1000010 - nI f, zw M1 0 9 (nI f), zw (zw M1 0 9 (nI f)) 66 4 (nI f), S, ?_, ?_, hI1.st (nI f)⟩
      · apply c_X7_who
        apply zL_of; rw [e_X7_who_0, s_isCellC (by omega) hI, Option.bind_some]
        dsimp only
        rw [hz, zbi_t rfl, if_neg zn10, s_isEitherC (by omega), Option.bind_some]
        dsimp only
        rw [hy, zbi_t rfl, if_neg zn10, s_areRows (by omega), Option.bind_some]
        dsimp only
        rw [zbi_t hg, if_neg zn10, e1, Option.bind_some]
        dsimp only
        rw [if_neg (nI_ne0 (by omega) (by omega)), s_found (by omega), Option.bind_some]; rfl
      · apply c_X8_who
        apply zL_of; rw [e_X8_who_0, s_isCellN (by omega) hI.wf hM2, Option.bind_some]
        dsimp only
        rw [hz, zbi_t rfl, if_neg zn10, s_in (by omega), Option.bind_some, zbi_eq zgm2]
        dsimp only
        rw [hy, zbi_t rfl, if_neg zn10, s_isRowM (by omega), Option.bind_some]
        dsimp only
        rw [g1, zbi_t rfl, if_neg zn10, s_isRowM (by omega), Option.bind_some]
        dsimp only
        rw [g2, zbi_t rfl, if_neg zn10, s_in (by omega), Option.bind_some]
        dsimp only
        rw [zbi_t g3, if_neg zn10, e4, Option.bind_some]
        dsimp only
        rw [if_neg (nI_nle (by omega) (by omega)), s_finds (by omega), Option.bind_some]; rfl
  · refine ⟨-1000001, M, M, S, ?_, ?_, hI⟩
    · apply c_X7_who
      apply zL_of; rw [e_X7_who_0, s_isCellC (by omega) hI, Option.bind_some]
      dsimp only
      rw [hz, zbi_t rfl, if_neg zn10, s_isEitherC (by omega), Option.bind_some]
      dsimp only
      rw [hy, zbi_t rfl, if_neg zn10, s_areRows (by omega), Option.bind_some]
      dsimp only
      rw [zbi_f hg, if_pos rfl]; rfl
    · apply c_X8_who
      apply zL_of; rw [e_X8_who_0, s_isCellM (by omega) hI, Option.bind_some]
      dsimp only
      rw [hz, zbi_t rfl, if_neg zn10, s_in (by omega), Option.bind_some, zbi_eq zgm2]
      dsimp only
      rw [hy, zbi_t rfl, if_neg zn10, s_isRowM (by omega), Option.bind_some]
      dsimp only
      cases q1 : zin r 8
      · rw [zbi_f (by decide), if_pos rfl]; rfl
      rw [zbi_t rfl, if_neg zn10, s_isRowM (by omega), Option.bind_some]
      dsimp only
      cases q2 : zin o 8
      · rw [zbi_f (by decide), if_pos rfl]; rfl
      rw [zbi_t rfl, if_neg zn10, s_in (by omega), Option.bind_some]
      dsimp only
      rw [zbi_f (fun q => hg ⟨q1, q2, q⟩), if_pos rfl]; rfl
end ZX47

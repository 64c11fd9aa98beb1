/-! fits -/
def zov (S : Nat → Nat) (v : Nat) : Nat → Nat := fun j => if j = 23 then v else S j
def zfO (S : Nat → Nat) (cs : Nat → Nat) (vs : Nat → Int32) (n v : Nat) : Nat := if zall (zso (zov S v) cs vs) n = true then 2 ^ v else 0
def zswp (S : Nat → Nat) (a e : Nat) : Nat → Nat := zup2 (zup2 S a (S (3 + e)) (S (31 + e))) e (S (3 + a)) (S (31 + a))
def zswb (S : Nat → Nat) (cs : Nat → Nat) (vs : Nat → Int32) (n a e : Nat) : Bool := zall (zso (zswp S a e) cs vs) n
def zcb (p : Nat → Nat → Bool) (a : Nat) : Nat → Nat → Nat
  | 0, _ => 0
  | n + 1, e => (if p a e then 1 else 0) + zcb p a n (e + 1)
def zca (p : Nat → Nat → Bool) (N : Nat) : Nat → Nat → Nat
  | 0, _ => 0
  | n + 1, a => zcb p a (N - (a + 1)) (a + 1) + zca p N n (a + 1)
def zgb (p : Nat → Nat → Bool) (a : Nat) (x : Int32) : Nat → Nat → Int32
  | 0, _ => x
  | n + 1, e => if p a e then nI (10 * a + e) else zgb p a x n (e + 1)
def zga (p : Nat → Nat → Bool) (N : Nat) : Nat → Nat → Int32
  | 0, _ => -1000000
  | n + 1, a => zgb p a (zga p N n (a + 1)) (N - (a + 1)) (a + 1)
theorem zNs {N a : Nat} (h : a < N) : N - a = (N - (a + 1)) + 1 := by omega
section ZX48
variable {d : Nat} {M : ZM} {S T : Nat → Nat} {b : Nat}
theorem zov_n {v k : Nat} (h : k ≠ 23) : zov S v k = S k := by unfold zov; rw [if_neg h]
theorem zov_i : zov S (S 23) = S := by
  funext k
  unfold zov
  by_cases e : k = 23
  · rw [if_pos e, e]
  · rw [if_neg e]
theorem zwf.ov (hW : zwf S) {v : Nat} (hv : v ≤ 9) : zwf (zov S v) := by
  have e : ∀ k, k ≠ 23 → zov S v k = S k := fun k h => zov_n h
  obtain ⟨w0, w2, w1, wv, w23, wc, w25, wp, wd, wq⟩ := hW
  refine ⟨by rw [e 0 (by omega)]; exact w0, by rw [e 2 (by omega)]; exact w2, by rw [e 0 (by omega), e 1 (by omega)]; exact w1, fun i hi => ?_, hv, fun i hi => ?_, by rw [e 25 (by omega), e 0 (by omega)]; exact w25, fun i hi => ?_, fun i j hi hj hne => ?_, fun i hi => ?_⟩
  · rw [e 0 (by omega)] at hi
    rw [e (3 + i) (by omega), e (31 + i) (by omega)]
    exact wv i hi
  · rw [e 2 (by omega)] at hi
    rw [e (13 + i) (by omega), e (18 + i) (by omega)]
    exact wc i hi
  · rw [e (26 + i) (by omega), e 0 (by omega), e 2 (by omega)]
    exact wp i hi
  · rw [e (26 + i) (by omega), e (26 + j) (by omega)]
    exact wd i j hi hj hne
  · rw [e (26 + i) (by omega), e 25 (by omega)]
    exact wq i hi
theorem zSheet.ov (hW : zwf S) (hS : zSheet S b M) (v : Nat) : zSheet (zov S v) b (zw M b 3 (nI v)) := by
  have hn := hW.n
  have hm := hW.m
  have e : ∀ k, k ≠ 23 → zov S v k = S k := fun k h => zov_n h
  have hon : zon (zov S v) = zon S := by
    unfold zon zgone
    rw [e 0 (by omega), e 25 (by omega), e 26 (by omega), e 27 (by omega), e 28 (by omega), e 29 (by omega), e 30 (by omega)]
  obtain ⟨s0, s1, s2, s3, s4, s5, s6, s7, s8, s9⟩ := id hS
  refine hS.mk' hn (fun k hk => e k (by omega)) ?_ ?_ ?_ ?_ ?_ ?_ ?_ ?_ ?_ ?_ ?_ ?_ (fun i hi => ?_) (fun i hi h5 => ?_) hm
  · rw [zw_nk (by decide)]
  · rw [zw_nk (by decide)]
  · rw [zw_nk (by decide)]
  · rw [zw_nk (by decide)]
  · rw [zw_eq]; rfl
  · rw [zw_nk (by decide), e 24 (by omega)]; exact s4
  · rw [zw_nk (by decide), hon]; exact s5
  · rw [zw_nk (by decide), e 25 (by omega)]; exact s6
  · rw [zw_nc (by omega)]
  · rw [zw_nc (by omega)]
  · rw [zw_nc (by omega)]
  · rw [zw_nc (by omega)]
  · rw [zw_nc (by omega), e (31 + i) (by omega)]; exact (s8 i hi).2.2
  · rw [zw_nc (by omega), e (26 + i) (by omega)]; exact (s9 i hi).2.2
theorem zov_2 {v w : Nat} : zov (zov S v) w = zov S w := by
  funext k
  unfold zov
  by_cases e : k = 23
  · rw [if_pos e, if_pos e]
  · rw [if_neg e, if_neg e, if_neg e]
theorem s_overs (hd : 5 ≤ d) (hW : zwf S) (hS : zSheet S 20 M) {n : Nat} {cs : Nat → Nat} {vs : Nat → Int32} (hn : n ≤ 10) (hT : zTld M n cs vs) (hcs : ∀ k, k < n → cs k < 10) : ∃ M', (zenv zbt d).1 139 [.ref 0] M = some (nI (zors (zfO S cs vs n) 10), M') ∧ zFr [27, 28, 29, 30, 31, 32, 33] M M' := by
  obtain ⟨d, rfl⟩ : ∃ e, d = e + 1 := ⟨d - 1, by omega⟩
  obtain ⟨M1, e1, f1, g1⟩ := s_become (d := d) (b := 27) (b1 := 20) (by omega) (by unfold zbc; omega) hW hS
  have key : ∀ v, v ≤ 10 → ∀ Mk v0, zFr [27, 28, 29, 30, 31, 32, 33] M Mk → v0 ≤ 9 → zSheet (zov S v0) 27 Mk → ∃ M', zL (zenv zbt d) tb_X7_oversThatFit cu_X7_oversThatFit 15 [some (.ref 0), some (.int (nI (zors (zfO S cs vs n) v))), some (.int (nI v))] [] Mk (some (.int (nI (zors (zfO S cs vs n) 10))), M') ∧ zFr [27, 28, 29, 30, 31, 32, 33] M M' := by
    apply zup
    · intro Mk v0 hf _ _
      refine ⟨Mk, ?_, hf⟩
      apply zL_of; rw [e_X7_oversThatFit_15, if_pos (by decide)]; rfl
    · intro v hv ih Mk v0 hf hv0 hSk
      have hWv := hW.ov (v := v) (by omega)
      have g2 := zSheet.ov (hW.ov hv0) hSk v
      rw [zov_2] at g2
      have f12 : zFr [27, 28, 29, 30, 31, 32, 33] M (zw Mk 27 3 (nI v)) := hf.w (by decide)
      have hT2 : zTld (zw Mk 27 3 (nI v)) n cs vs := hT.fr f12 (by decide) (by decide) (by decide)
      have e3 := s_isSoC (d := d) (by omega) (Or.inr rfl) hWv g2 hn hT2 hcs
      obtain ⟨M', h1', h2'⟩ := ih _ v f12 (by omega) g2
      refine ⟨M', ?_, h2'⟩
      rw [zors] at h1'
      apply zL_of; rw [e_X7_oversThatFit_15, if_neg (show ¬ ((9 : Int32) < nI v) from nI_nlt (a := 9) (by omega) (by decide)), e3, Option.bind_some]
      dsimp only
      by_cases q : zall (zso (zov S v) cs vs) n = true
      · rw [zbi_t q, if_neg zn10, show zshl 1 (nI v) = nI (2 ^ v) from zshl1 (by omega), zor, nI_1]
        have : zfO S cs vs n v = 2 ^ v := by unfold zfO; rw [if_pos q]
        rw [this] at h1'
        exact zPo_go h1'
      · rw [zbi_f q, if_pos rfl, show (0 : Int32) = nI 0 from rfl, zor, nI_1]
        have : zfO S cs vs n v = 0 := by unfold zfO; rw [if_neg q]
        rw [this] at h1'
        exact zPo_go h1'
  obtain ⟨M', h1, h2⟩ := key 0 (by omega) M1 (S 23) (f1.mono (by decide)) hW.2.2.2.2.1 (by rw [zov_i]; exact g1)
  refine ⟨M', ?_, h2⟩
  apply c_X7_oversThatFit
  apply zL_of; rw [e_X7_oversThatFit_0, e1, Option.bind_some]
  exact zPo_go h1
theorem s_fitsSw (hd : 5 ≤ d) (hW : zwf S) (hS : zSheet S 20 M) {a e n : Nat} {cs : Nat → Nat} {vs : Nat → Int32} (ha : a < S 0) (he : e < S 0) (hn : n ≤ 10) (hT : zTld M n cs vs) (hcs : ∀ k, k < n → cs k < 10) : ∃ M', (zenv zbt d).1 142 [.ref 0, .int (nI a), .int (nI e)] M = some (zbi (zswb S cs vs n a e = true), M') ∧ zFr [27, 28, 29, 30, 31, 32, 33] M M' := by
  obtain ⟨d, rfl⟩ : ∃ e, d = e + 1 := ⟨d - 1, by omega⟩
  have hn10 := hW.n
  have hka := hW.2.2.2.1 a ha
  have hke := hW.2.2.2.1 e he
  obtain ⟨M1, e1, f1, g1⟩ := s_become (d := d) (b := 27) (b1 := 20) (by omega) (by unfold zbc; omega) hW hS
  have hWa := hW.up2 (c := a) (k := S (3 + e)) (v := S (31 + e)) (by omega) hke.1 hke.2.1 hke.2.2
  have hWe := hWa.up2 (c := e) (k := S (3 + a)) (v := S (31 + a)) (by omega) hka.1 hka.2.1 hka.2.2
  obtain ⟨M2, e2, f2, g2⟩ := s_putS (d := d) (b := 27) (k := S (3 + e)) (v := S (31 + e)) (by omega) (Or.inr rfl) hW g1 ha (by omega)
  obtain ⟨M3, e3, f3, g3⟩ := s_putS (d := d) (b := 27) (c := e) (k := S (3 + a)) (v := S (31 + a)) (by omega) (Or.inr rfl) hWa g2 (by rw [zup2_o (by omega) (by omega)]; exact he) (by omega)
  have f1' : zFr [27, 28, 29, 30, 31, 32, 33] M M1 := f1.mono (by decide)
  have f2' : zFr [27, 28, 29, 30, 31, 32, 33] M M2 := f1'.trans (f2.mono (by decide))
  have f3' : zFr [27, 28, 29, 30, 31, 32, 33] M M3 := f2'.trans (f3.mono (by decide))
  have e4 := s_isSoC (d := d) (by omega) (Or.inr rfl) hWe g3 hn (hT.fr f3' (by decide) (by decide) (by decide)) hcs
  refine ⟨M3, ?_, f3'⟩
  apply c_X7_fitsSwapped
  apply zL_of; rw [e_X7_fitsSwapped_0, e1, Option.bind_some, zck_t (zinN (by omega) (by decide)), zck_t (zinN (by omega) (by decide)), zcN (by omega), (f1' 22 (by decide)).1, (f1' 23 (by decide)).1, (hS.2.2.2.2.2.2.2.2.1 e he).2.1, (hS.2.2.2.2.2.2.2.2.1 e he).2.2, e2, Option.bind_some, zck_t (zinN (by omega) (by decide)), zck_t (zinN (by omega) (by decide)), zcN (by omega), (f2' 22 (by decide)).1, (f2' 23 (by decide)).1, (hS.2.2.2.2.2.2.2.2.1 a ha).2.1, (hS.2.2.2.2.2.2.2.2.1 a ha).2.2, e3, Option.bind_some, e4, Option.bind_some]
  dsimp only
  rw [zck_t zbi_01]; rfl
theorem s_countSw (hd : 6 ≤ d) (hW : zwf S) (hS : zSheet S 20 M) {n : Nat} {cs : Nat → Nat} {vs : Nat → Int32} (hn : n ≤ 10) (hT : zTld M n cs vs) (hcs : ∀ k, k < n → cs k < 10) : ∃ M', (zenv zbt d).1 140 [.ref 0] M = some (nI (zca (zswb S cs vs n) (S 0) (S 0) 0), M') ∧ zFr [27, 28, 29, 30, 31, 32, 33] M M' := by
  obtain ⟨d, rfl⟩ : ∃ e, d = e + 1 := ⟨d - 1, by omega⟩
  have hn10 := hW.n
  have hSf : ∀ {Mk : ZM}, zFr [27, 28, 29, 30, 31, 32, 33] M Mk → zSheet S 20 Mk := fun h => hS.fr h (fun j hj => by simp; omega)
  have inner : ∀ a, a < S 0 → ∀ R : Nat, (∀ Mk m, zFr [27, 28, 29, 30, 31, 32, 33] M Mk → m + zca (zswb S cs vs n) (S 0) (S 0 - (a + 1)) (a + 1) = R → ∃ M', zL (zenv zbt d) tb_X7_countSwaps cu_X7_countSwaps 4 [some (.ref 0), some (.int (nI m)), some (.int (nI (a + 1))), none] [] Mk (some (.int (nI R)), M') ∧ zFr [27, 28, 29, 30, 31, 32, 33] M M') → ∀ e, e ≤ S 0 → ∀ Mk m, zFr [27, 28, 29, 30, 31, 32, 33] M Mk → m + zcb (zswb S cs vs n) a (S 0 - e) e + zca (zswb S cs vs n) (S 0) (S 0 - (a + 1)) (a + 1) = R → ∃ M', zL (zenv zbt d) tb_X7_countSwaps cu_X7_countSwaps 19 [some (.ref 0), some (.int (nI m)), some (.int (nI a)), some (.int (nI e))] [] Mk (some (.int (nI R)), M') ∧ zFr [27, 28, 29, 30, 31, 32, 33] M M' := by
    intro a ha R hend
    apply zup
    · intro Mk m hf hR
      rw [Nat.sub_self, zcb, Nat.add_zero] at hR
      obtain ⟨M', h1, h2⟩ := hend Mk m hf hR
      refine ⟨M', ?_, h2⟩
      apply zL_of; rw [e_X7_countSwaps_19, (hSf hf).2.1, if_pos (nI_le (Nat.le_refl _) (by omega)), nI_1]
      exact zPo_go h1
    · intro e he ih Mk m hf hR
      rw [zNs he, zcb] at hR
      obtain ⟨M2, e2, f2⟩ := s_fitsSw (d := d) (by omega) hW (hSf hf) ha he hn (hT.fr hf (by decide) (by decide) (by decide)) hcs
      have f12 := hf.trans f2
      cases q : zswb S cs vs n a e
      · rw [q, if_neg (by decide), Nat.zero_add] at hR
        obtain ⟨M', h1, h2⟩ := ih M2 m f12 hR
        refine ⟨M', ?_, h2⟩
        rw [q, zbi_f (by decide)] at e2
        apply zL_of; rw [e_X7_countSwaps_19, (hSf hf).2.1, if_neg (nI_ge he (by omega)), e2, Option.bind_some]
        dsimp only
        rw [if_pos rfl, show nI m + 0 = nI m from nI_add m 0, nI_1]
        exact zPo_go h1
      · rw [q, if_pos rfl] at hR
        obtain ⟨M', h1, h2⟩ := ih M2 (m + 1) f12 (by omega)
        refine ⟨M', ?_, h2⟩
        rw [q, zbi_t rfl] at e2
        apply zL_of; rw [e_X7_countSwaps_19, (hSf hf).2.1, if_neg (nI_ge he (by omega)), e2, Option.bind_some]
        dsimp only
        rw [if_neg zn10, nI_1, nI_1]
        exact zPo_go h1
  have outer : ∀ R a, a ≤ S 0 → ∀ Mk m, zFr [27, 28, 29, 30, 31, 32, 33] M Mk → m + zca (zswb S cs vs n) (S 0) (S 0 - a) a = R → ∃ M', zL (zenv zbt d) tb_X7_countSwaps cu_X7_countSwaps 4 [some (.ref 0), some (.int (nI m)), some (.int (nI a)), none] [] Mk (some (.int (nI R)), M') ∧ zFr [27, 28, 29, 30, 31, 32, 33] M M' := by
    intro R
    apply zup
    · intro Mk m hf hR
      rw [Nat.sub_self, zca, Nat.add_zero] at hR
      refine ⟨Mk, ?_, hf⟩
      apply zL_of; rw [e_X7_countSwaps_4, (hSf hf).2.1, if_pos (nI_le (Nat.le_refl _) (by omega)), hR]; rfl
    · intro a ha ih Mk m hf hR
      rw [zNs ha, zca] at hR
      obtain ⟨M', h1, h2⟩ := inner a ha R ih (a + 1) (by omega) Mk m hf (by omega)
      refine ⟨M', ?_, h2⟩
      apply zL_of; rw [e_X7_countSwaps_4, (hSf hf).2.1, if_neg (nI_ge ha (by omega)), nI_1]
      exact zPo_go h1
  obtain ⟨M', h1, h2⟩ := outer _ 0 (by omega) M 0 zFr.rf (by rw [Nat.zero_add, Nat.sub_zero])
  refine ⟨M', ?_, h2⟩
  apply c_X7_countSwaps
  apply zL_of; rw [e_X7_countSwaps_0]
  exact zPo_go h1
theorem s_firstSw (hd : 6 ≤ d) (hW : zwf S) (hS : zSheet S 20 M) {n : Nat} {cs : Nat → Nat} {vs : Nat → Int32} (hn : n ≤ 10) (hT : zTld M n cs vs) (hcs : ∀ k, k < n → cs k < 10) : ∃ M', (zenv zbt d).1 141 [.ref 0] M = some (zga (zswb S cs vs n) (S 0) (S 0) 0, M') ∧ zFr [27, 28, 29, 30, 31, 32, 33] M M' := by
  obtain ⟨d, rfl⟩ : ∃ e, d = e + 1 := ⟨d - 1, by omega⟩
  have hn10 := hW.n
  have hSf : ∀ {Mk : ZM}, zFr [27, 28, 29, 30, 31, 32, 33] M Mk → zSheet S 20 Mk := fun h => hS.fr h (fun j hj => by simp; omega)
  have inner : ∀ a, a < S 0 → ∀ R X : Int32, (∀ Mk, zFr [27, 28, 29, 30, 31, 32, 33] M Mk → X = R → ∃ M', zL (zenv zbt d) tb_X7_firstSwap cu_X7_firstSwap 2 [some (.ref 0), some (.int (nI (a + 1))), none] [] Mk (some (.int R), M') ∧ zFr [27, 28, 29, 30, 31, 32, 33] M M') → ∀ e, e ≤ S 0 → ∀ Mk, zFr [27, 28, 29, 30, 31, 32, 33] M Mk → zgb (zswb S cs vs n) a X (S 0 - e) e = R → ∃ M', zL (zenv zbt d) tb_X7_firstSwap cu_X7_firstSwap 17 [some (.ref 0), some (.int (nI a)), some (.int (nI e))] [] Mk (some (.int R), M') ∧ zFr [27, 28, 29, 30, 31, 32, 33] M M' := by
    intro a ha R X hend
    apply zup
    · intro Mk hf hR
      rw [Nat.sub_self, zgb] at hR
      obtain ⟨M', h1, h2⟩ := hend Mk hf hR
      refine ⟨M', ?_, h2⟩
      apply zL_of; rw [e_X7_firstSwap_17, (hSf hf).2.1, if_pos (nI_le (Nat.le_refl _) (by omega)), nI_1]
      exact zPo_go h1
    · intro e he ih Mk hf hR
      rw [zNs he, zgb] at hR
      obtain ⟨M2, e2, f2⟩ := s_fitsSw (d := d) (by omega) hW (hSf hf) ha he hn (hT.fr hf (by decide) (by decide) (by decide)) hcs
      have f12 := hf.trans f2
      cases q : zswb S cs vs n a e
      · rw [q, if_neg (by decide)] at hR
        obtain ⟨M', h1, h2⟩ := ih M2 f12 hR
        refine ⟨M', ?_, h2⟩
        rw [q, zbi_f (by decide)] at e2
        apply zL_of; rw [e_X7_firstSwap_17, (hSf hf).2.1, if_neg (nI_ge he (by omega)), e2, Option.bind_some]
        dsimp only
        rw [if_pos rfl, nI_1]
        exact zPo_go h1
      · rw [q, if_pos rfl] at hR
        refine ⟨M2, ?_, f12⟩
        rw [q, zbi_t rfl] at e2
        apply zL_of; rw [e_X7_firstSwap_17, (hSf hf).2.1, if_neg (nI_ge he (by omega)), e2, Option.bind_some]
        dsimp only
        rw [if_neg zn10, show (10 : Int32) * nI a = nI (10 * a) from pk_mul 10 a, nI_add, hR]; rfl
  have outer : ∀ R a, a ≤ S 0 → ∀ Mk, zFr [27, 28, 29, 30, 31, 32, 33] M Mk → zga (zswb S cs vs n) (S 0) (S 0 - a) a = R → ∃ M', zL (zenv zbt d) tb_X7_firstSwap cu_X7_firstSwap 2 [some (.ref 0), some (.int (nI a)), none] [] Mk (some (.int R), M') ∧ zFr [27, 28, 29, 30, 31, 32, 33] M M' := by
    intro R
    apply zup
    · intro Mk hf hR
      rw [Nat.sub_self, zga] at hR
      refine ⟨Mk, ?_, hf⟩
      apply zL_of; rw [e_X7_firstSwap_2, (hSf hf).2.1, if_pos (nI_le (Nat.le_refl _) (by omega)), hR]; rfl
    · intro a ha ih Mk hf hR
      rw [zNs ha, zga] at hR
      obtain ⟨M', h1, h2⟩ := inner a ha R _ ih (a + 1) (by omega) Mk hf hR
      refine ⟨M', ?_, h2⟩
      apply zL_of; rw [e_X7_firstSwap_2, (hSf hf).2.1, if_neg (nI_ge ha (by omega)), nI_1]
      exact zPo_go h1
  obtain ⟨M', h1, h2⟩ := outer _ 0 (by omega) M zFr.rf (by rw [Nat.sub_zero])
  refine ⟨M', ?_, h2⟩
  apply c_X7_firstSwap
  apply zL_of; rw [e_X7_firstSwap_0]
  exact zPo_go h1
theorem zswp_at {a e : Nat} (ha : a < 10) (he : e < 10) {k : Nat} : zswp S a e k = if k = 3 + e then S (3 + a) else if k = 31 + e then S (31 + a) else if k = 3 + a then S (3 + e) else if k = 31 + a then S (31 + e) else S k := rfl
theorem s_swaps (hd : 1 ≤ d) (hM : zMod S M) {a e : Nat} (ha : a < 10) (he : e < 10) : ∃ M', (zenv zbt d).2.2 215 [.ref 66, .int (nI a), .int (nI e)] M = some M' ∧ zFr [72] M M' ∧ zMod (zswp S a e) M' := by
  obtain ⟨d, rfl⟩ : ∃ e, d = e + 1 := ⟨d - 1, by omega⟩
  have m1 := hM.1 (3 + a) (by omega)
  have m2 := hM.1 (31 + a) (by omega)
  have m3 := hM.1 (3 + e) (by omega)
  have m4 := hM.1 (31 + e) (by omega)
  have n31 : (zw M 72 (3 + a) (nI (S (3 + e)))).1 72 (31 + e) = nI (S (31 + e)) := by rw [zw_nk (by omega)]; exact m4
  refine ⟨zw (zw (zw (zw M 72 (3 + a) (nI (S (3 + e)))) 72 (31 + a) (nI (S (31 + e)))) 72 (3 + e) (nI (S (3 + a)))) 72 (31 + e) (nI (S (31 + a))), ?_, (((zFr.rf.w (by decide)).w (by decide)).w (by decide)).w (by decide), ?_⟩
  · apply c_X8_swaps
    apply zL_of; rw [e_X8_swaps_0, show (3 : Int32) + nI a = nI (3 + a) from nI_add 3 a, show (31 : Int32) + nI a = nI (31 + a) from nI_add 31 a, show (3 : Int32) + nI e = nI (3 + e) from nI_add 3 e, show (31 : Int32) + nI e = nI (31 + e) from nI_add 31 e, zck_t (zinN (by omega) (by decide)), zck_t (zinN (by omega) (by decide)), zck_t (zinN (by omega) (by decide)), zck_t (zinN (by omega) (by decide)), zck_t (zinN (by omega) (by decide)), zck_t (zinN (by omega) (by decide)), zck_t (zinN (by omega) (by decide)), zck_t (zinN (by omega) (by decide)), zcN (show 3 + a < 2 ^ 31 by omega), zcN (show 31 + a < 2 ^ 31 by omega), zcN (show 3 + e < 2 ^ 31 by omega), zcN (show 31 + e < 2 ^ 31 by omega), m1, m2, m3, n31]; rfl
  · refine ⟨fun k hk => ?_, fun c hc => ?_⟩
    · rw [zswp_at ha he]
      by_cases q1 : k = 31 + e
      · rw [if_neg (show ¬ k = 3 + e by omega), if_pos q1, q1, zw_eq]
      rw [zw_nk q1]
      by_cases q2 : k = 3 + e
      · rw [if_pos q2, q2, zw_eq]
      rw [zw_nk q2, if_neg q2, if_neg q1]
      by_cases q3 : k = 31 + a
      · rw [if_neg (show ¬ k = 3 + a by omega), if_pos q3, q3, zw_eq]
      rw [zw_nk q3]
      by_cases q4 : k = 3 + a
      · rw [if_pos q4, q4, zw_eq]
      rw [zw_nk q4, if_neg q4, if_neg q3]
      exact hM.1 k hk
    · have e0 : zswp S a e 0 = S 0 := by rw [zswp_at ha he, if_neg (by omega), if_neg (by omega), if_neg (by omega), if_neg (by omega)]
      have e1 : zswp S a e 1 = S 1 := by rw [zswp_at ha he, if_neg (by omega), if_neg (by omega), if_neg (by omega), if_neg (by omega)]
      rw [e0] at hc ⊢
      rw [e1, zw_nc (by decide), zw_nc (by decide), zw_nc (by decide), zw_nc (by decide)]
      exact hM.2 c hc
theorem zswp_2 {a e : Nat} (ha : a < 10) (he : e < 10) (hne : a ≠ e) : zswp (zswp S a e) a e = S := by
  funext k
  rw [zswp_at ha he]
  by_cases q1 : k = 3 + e
  · rw [if_pos q1, zswp_at ha he, if_neg (by omega), if_neg (by omega), if_pos rfl, q1]
  rw [if_neg q1]
  by_cases q2 : k = 31 + e
  · rw [if_pos q2, zswp_at ha he, if_neg (by omega), if_neg (by omega), if_neg (by omega), if_pos rfl, q2]
  rw [if_neg q2]
  by_cases q3 : k = 3 + a
  · rw [if_pos q3, zswp_at ha he, if_pos rfl, q3]
  rw [if_neg q3]
  by_cases q4 : k = 31 + a
  · rw [if_pos q4, zswp_at ha he, if_neg (by omega), if_pos rfl, q4]
  rw [if_neg q4, zswp_at ha he, if_neg q1, if_neg q2, if_neg q3, if_neg q4]
theorem zwf.swp (hW : zwf S) {a e : Nat} (ha : a < S 0) (he : e < S 0) : zwf (zswp S a e) := by
  have hn10 := hW.n
  have hka := hW.2.2.2.1 a ha
  have hke := hW.2.2.2.1 e he
  exact (hW.up2 (c := a) (by omega) hke.1 hke.2.1 hke.2.2).up2 (by omega) hka.1 hka.2.1 hka.2.2
end ZX48

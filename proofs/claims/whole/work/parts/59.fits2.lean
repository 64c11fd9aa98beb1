/-! fits: the reference; both -/
def zfR (x : Int32) (s c : Nat) (f : Int32) : Int32 := if x = 0 then nI s else if x = 1 then nI c else f
section ZX49
variable {d : Nat} {M : ZM} {S : Nat → Nat}
theorem l_fitsA (hd : 3 ≤ d) (hW : zwf S) {r i o j n : Nat} {cs : Nat → Nat} {vs : Nat → Int32} (hr : r < 8) (ho : o < 8) (hi : i + n ≤ 40) (hj : j + n ≤ 40) (hn : n ≤ 10) (h1 : ∀ k, k < n → M.1 69 (40 * r + i + k) = nI (cs k)) (h2 : ∀ k, k < n → M.1 69 (40 * o + j + k) = vs k) (hcs : ∀ k, k < n → cs k < 10) (x R : Int32) (s : Nat) : ∀ a, a ≤ S 0 → ∀ Mk m f, zFr [72] M Mk → zMod S Mk → m ≤ 10 * a → zfR x s (m + zca (zswb S cs vs n) (S 0) (S 0 - a) a) (if m = 0 then zga (zswb S cs vs n) (S 0) (S 0 - a) a else f) = R → ∃ M', zL (zenv zbt d) tb_X8_fits cu_X8_fits 165 [some (.ref 66), some (.int x), some (.int (nI r)), some (.int (nI i)), some (.int (nI o)), some (.int (nI j)), some (.int (nI n)), none, none, some (.int (nI s)), some (.int (nI m)), some (.int (if m = 0 then -1000000 else f)), some (.int (nI a)), none, none] [] Mk (some (.int R), M') ∧ zFr [72] M M' ∧ zMod S M' := by
  have hn10 := hW.n
  have inner : ∀ a, a < S 0 → (∀ Mk m f, zFr [72] M Mk → zMod S Mk → m ≤ 10 * (a + 1) → zfR x s (m + zca (zswb S cs vs n) (S 0) (S 0 - (a + 1)) (a + 1)) (if m = 0 then zga (zswb S cs vs n) (S 0) (S 0 - (a + 1)) (a + 1) else f) = R → ∃ M', zL (zenv zbt d) tb_X8_fits cu_X8_fits 165 [some (.ref 66), some (.int x), some (.int (nI r)), some (.int (nI i)), some (.int (nI o)), some (.int (nI j)), some (.int (nI n)), none, none, some (.int (nI s)), some (.int (nI m)), some (.int (if m = 0 then -1000000 else f)), some (.int (nI (a + 1))), none, none] [] Mk (some (.int R), M') ∧ zFr [72] M M' ∧ zMod S M') → ∀ e, e ≤ S 0 → a < e → ∀ Mk m f, zFr [72] M Mk → zMod S Mk → m ≤ 10 * a + e → zfR x s (m + zcb (zswb S cs vs n) a (S 0 - e) e + zca (zswb S cs vs n) (S 0) (S 0 - (a + 1)) (a + 1)) (if m = 0 then zgb (zswb S cs vs n) a (zga (zswb S cs vs n) (S 0) (S 0 - (a + 1)) (a + 1)) (S 0 - e) e else f) = R → ∃ M', zL (zenv zbt d) tb_X8_fits cu_X8_fits 182 [some (.ref 66), some (.int x), some (.int (nI r)), some (.int (nI i)), some (.int (nI o)), some (.int (nI j)), some (.int (nI n)), none, none, some (.int (nI s)), some (.int (nI m)), some (.int (if m = 0 then -1000000 else f)), some (.int (nI a)), some (.int (nI e)), none] [] Mk (some (.int R), M') ∧ zFr [72] M M' ∧ zMod S M' := by
    intro a ha hend
    apply zup
    · intro _ Mk m f hf hM hm hR
      rw [Nat.sub_self, zcb, zgb, Nat.add_zero] at hR
      obtain ⟨M', g1, g2⟩ := hend Mk m f hf hM (by omega) hR
      refine ⟨M', ?_, g2⟩
      apply zL_of; rw [e_X8_fits_182, hM.1 0 (by decide), if_pos (nI_le (Nat.le_refl _) (by omega)), nI_1]
      exact zPo_go g1
    · intro e he ih hae Mk m f hf hM hm hR
      rw [zNs he, zcb, zgb] at hR
      obtain ⟨M1, e1, f1, m1⟩ := s_swaps (d := d) (by omega) hM (show a < 10 by omega) (show e < 10 by omega)
      have f1' := hf.trans f1
      have e2 := s_isSoM (d := d) hd (hW.swp ha he) m1 hr ho hi hj hn (cs := cs) (vs := vs) (fun k hk => by rw [(f1' 69 (by decide)).1]; exact h1 k hk) (fun k hk => by rw [(f1' 69 (by decide)).1]; exact h2 k hk) hcs
      change _ = some (zbi (zswb S cs vs n a e = true), M1) at e2
      obtain ⟨M2, e3, f2, m2⟩ := s_swaps (d := d) (by omega) m1 (show a < 10 by omega) (show e < 10 by omega)
      rw [zswp_2 (by omega) (by omega) (by omega)] at m2
      have f2' := f1'.trans f2
      cases q : zswb S cs vs n a e
      · rw [q, if_neg (show ¬ (false = true) by decide), if_neg (show ¬ (false = true) by decide), Nat.zero_add] at hR
        obtain ⟨M', g1, g2⟩ := ih (by omega) M2 m f f2' m2 (by omega) hR
        refine ⟨M', ?_, g2⟩
        rw [q, zbi_f (by decide)] at e2
        apply zL_of; rw [e_X8_fits_182, hM.1 0 (by decide), if_neg (nI_ge he (by omega)), e1, Option.bind_some, e2, Option.bind_some]
        dsimp only
        rw [e3, Option.bind_some, if_pos rfl, if_pos rfl, show nI m + 0 = nI m from nI_add m 0, nI_1]
        exact zPo_go g1
      · rw [q, if_pos rfl, if_pos rfl] at hR
        rw [q, zbi_t rfl] at e2
        by_cases hm0 : m = 0
        · subst hm0
          rw [if_pos rfl, Nat.zero_add] at hR
          obtain ⟨M', g1, g2⟩ := ih (by omega) M2 1 (nI (10 * a + e)) f2' m2 (by omega) (by rw [if_neg (by decide)]; exact hR)
          refine ⟨M', ?_, g2⟩
          rw [if_neg (by decide)] at g1
          apply zL_of; rw [e_X8_fits_182, hM.1 0 (by decide), if_neg (nI_ge he (by omega)), e1, Option.bind_some, e2, Option.bind_some]
          dsimp only
          rw [e3, Option.bind_some, if_neg zn10, if_pos zn0, if_neg zn10, nI_1, nI_1, show (10 : Int32) * nI a = nI (10 * a) from pk_mul 10 a, nI_add]
          exact zPo_go g1
        · rw [if_neg hm0] at hR
          obtain ⟨M', g1, g2⟩ := ih (by omega) M2 (m + 1) f f2' m2 (by omega) (by rw [if_neg (by omega), Nat.add_assoc m 1]; exact hR)
          refine ⟨M', ?_, g2⟩
          rw [if_neg (by omega)] at g1
          apply zL_of; rw [e_X8_fits_182, hM.1 0 (by decide), if_neg (nI_ge he (by omega)), e1, Option.bind_some, e2, Option.bind_some]
          dsimp only
          rw [e3, Option.bind_some, if_neg zn10, if_neg (nI_ne0 (by omega) (by omega)), if_neg zn10, nI_1, nI_1, if_neg hm0]
          exact zPo_go g1
  apply zup
  · intro Mk m f hf hM hm hR
    rw [Nat.sub_self, zca, zga, Nat.add_zero] at hR
    refine ⟨Mk, ?_, hf, hM⟩
    apply zL_of; rw [e_X8_fits_165, hM.1 0 (by decide), if_pos (nI_le (Nat.le_refl _) (by omega)), ← hR]
    unfold zfR
    by_cases q : x = 0
    · rw [if_pos q, if_pos q]; rfl
    · rw [if_neg q, if_neg q]
      by_cases q2 : x = 1
      · rw [if_pos q2, if_pos q2]; rfl
      · rw [if_neg q2, if_neg q2]; rfl
  · intro a ha ih Mk m f hf hM hm hR
    rw [zNs ha, zca, zga] at hR
    obtain ⟨M', g1, g2⟩ := inner a ha ih (a + 1) (by omega) (by omega) Mk m f hf hM (by omega) (by rw [Nat.add_assoc]; exact hR)
    refine ⟨M', ?_, g2⟩
    apply zL_of; rw [e_X8_fits_165, hM.1 0 (by decide), if_neg (nI_ge ha (by omega)), nI_1]
    exact zPo_go g1
theorem l_fitsO (hd : 3 ≤ d) (hW : zwf S) (hM : zMod S M) {r i o j n : Nat} {cs : Nat → Nat} {vs : Nat → Int32} (hr : r < 8) (ho : o < 8) (hi : i + n ≤ 40) (hj : j + n ≤ 40) (hn : n ≤ 10) (h1 : ∀ k, k < n → M.1 69 (40 * r + i + k) = nI (cs k)) (h2 : ∀ k, k < n → M.1 69 (40 * o + j + k) = vs k) (hcs : ∀ k, k < n → cs k < 10) (x : Int32) : ∃ M', zL (zenv zbt d) tb_X8_fits cu_X8_fits 96 [some (.ref 66), some (.int x), some (.int (nI r)), some (.int (nI i)), some (.int (nI o)), some (.int (nI j)), some (.int (nI n)), none, some (.int (nI (S 23))), some (.int 0), some (.int 0), none, none, none, none] [] M (some (.int (zfR x (zors (zfO S cs vs n) 10) (zca (zswb S cs vs n) (S 0) (S 0) 0) (zga (zswb S cs vs n) (S 0) (S 0) 0))), M') ∧ zFr [72] M M' ∧ zMod S M' := by
  have hn10 := hW.n
  have key : ∀ v, v ≤ 10 → ∀ Mk v0, zFr [72] M Mk → zMod (zov S v0) Mk → ∃ M', zL (zenv zbt d) tb_X8_fits cu_X8_fits 96 [some (.ref 66), some (.int x), some (.int (nI r)), some (.int (nI i)), some (.int (nI o)), some (.int (nI j)), some (.int (nI n)), none, some (.int (nI (S 23))), some (.int (nI (zors (zfO S cs vs n) v))), some (.int (nI v)), none, none, none, none] [] Mk (some (.int (zfR x (zors (zfO S cs vs n) 10) (zca (zswb S cs vs n) (S 0) (S 0) 0) (zga (zswb S cs vs n) (S 0) (S 0) 0))), M') ∧ zFr [72] M M' ∧ zMod S M' := by
    have up : ∀ v0 w, ∀ k, k ≠ 23 → zov S w k = zov S v0 k := fun v0 w k hk => by rw [zov_n hk, zov_n hk]
    apply zup
    · intro Mk v0 hf hMk
      have hM2 := hMk.wr (T := zov S (S 23)) (p := 23) (v := S 23) (by omega) rfl (up v0 _)
      rw [zov_i] at hM2
      obtain ⟨M', g1, g2⟩ := l_fitsA (d := d) hd hW hr ho hi hj hn h1 h2 hcs x (zfR x (zors (zfO S cs vs n) 10) (zca (zswb S cs vs n) (S 0) (S 0) 0) (zga (zswb S cs vs n) (S 0) (S 0) 0)) (zors (zfO S cs vs n) 10) 0 (by omega) _ 0 0 (hf.w (by decide)) hM2 (by omega) (by rw [if_pos rfl, Nat.zero_add, Nat.sub_zero])
      refine ⟨M', ?_, g2⟩
      rw [if_pos rfl] at g1
      apply zL_of; rw [e_X8_fits_96, if_pos (by decide)]
      exact zPo_go g1
    · intro v hv ih Mk v0 hf hMk
      have hM2 := hMk.wr (T := zov S v) (p := 23) (v := v) (by omega) rfl (up v0 _)
      have f2 : zFr [72] M (zw Mk 72 23 (nI v)) := hf.w (by decide)
      have e3 := s_isSoM (d := d) hd (hW.ov (v := v) (by omega)) hM2 hr ho hi hj hn (cs := cs) (vs := vs) (fun k hk => by rw [(f2 69 (by decide)).1]; exact h1 k hk) (fun k hk => by rw [(f2 69 (by decide)).1]; exact h2 k hk) hcs
      obtain ⟨M', h1', h2'⟩ := ih _ v f2 hM2
      refine ⟨M', ?_, h2'⟩
      rw [zors] at h1'
      apply zL_of; rw [e_X8_fits_96, if_neg (show ¬ ((10 : Int32) ≤ nI v) from nI_ge hv (by decide)), e3, Option.bind_some]
      dsimp only
      by_cases q : zall (zso (zov S v) cs vs) n = true
      · rw [zbi_t q, if_neg zn10, show zshl 1 (nI v) = nI (2 ^ v) from zshl1 (by omega), zor, nI_1]
        have : zfO S cs vs n v = 2 ^ v := by unfold zfO; rw [if_pos q]
        rw [this] at h1'
        exact zPo_go h1'
      · rw [zbi_f q, if_pos rfl, nI_1]
        have : zfO S cs vs n v = 0 := by unfold zfO; rw [if_neg q]
        rw [this, ← zor] at h1'
        exact zPo_go h1'
  obtain ⟨M', g1, g2⟩ := key 0 (by omega) M (S 23) zFr.rf (by rw [zov_i]; exact hM)
  exact ⟨M', g1, g2⟩
theorem a_fits (hI : zInv S M) (x r i o j n : Int32) : zAl 109 216 [.int x, .int r, .int i, .int o, .int j, .int n] M := by
  intro d hd
  obtain ⟨d, rfl⟩ : ∃ e, d = e + 1 := ⟨d - 1, by omega⟩
  have hn10 := hI.wf.n
  by_cases h0 : S 0 = 0
  · refine ⟨-1000002, M, M, S, ?_, ?_, hI⟩
    · apply c_X7_fits
      apply zL_of; rw [e_X7_fits_0, s_isThereC (by omega) hI, Option.bind_some]
      dsimp only
      rw [zbi_f (fun q => q h0), if_pos rfl]; rfl
    · apply c_X8_fits
      apply zL_of; rw [e_X8_fits_0, hI.md.1 0 (by decide), h0, if_pos zn0]; rfl
  by_cases hx : (0 : Int32) ≤ x ∧ x ≤ 2
  · by_cases hg : zin r 8 = true ∧ zin o 8 = true ∧ 1 ≤ n ∧ n ≤ 10
    · obtain ⟨g1, g2, g3⟩ := id hg
      obtain ⟨r, hr, rfl⟩ := (zin_iff (by decide)).mp g1
      obtain ⟨o, ho, rfl⟩ := (zin_iff (by decide)).mp g2
      obtain ⟨n, hn, rfl⟩ := z110 g3
      obtain ⟨R1, hR1⟩ := (hI.rw r hr).rd
      obtain ⟨R2, hR2⟩ := (hI.rw o ho).rd
      obtain ⟨M1, e1, f1, t1⟩ := s_takeTold (d := d) (by omega) hr ho hn hR1 hR2 hn10 hI.sh.2.1 i j
      have hI1 := hI.fr (f1.mono (by decide))
      by_cases hf : zfnd R1 R2 (fun k => M.1 69 (40 * r + i.toNatClampNeg + k)) (S 0) i j n = 0
      · have hT := t1 hf
        obtain ⟨i', j', m, rfl, hi', rfl, hj', hm⟩ := zfnd_0 hn hR1 hR2 hf
        rw [zcN (show i' < 2 ^ 31 by omega)] at e1 hT hm
        rw [zcN (show j' < 2 ^ 31 by omega)] at hT
        rw [zcN (show i' < 2 ^ 31 by omega)] at hf
        rw [hf] at e1
        have hcs : ∀ k, k < n → (M.1 69 (40 * r + i' + k)).toNatClampNeg < 10 ∧ M.1 69 (40 * r + i' + k) = nI (M.1 69 (40 * r + i' + k)).toNatClampNeg := fun k hk => by
          obtain ⟨c, hc1, hc2⟩ := (zin_iff (by omega)).mp ((zmx_ok hn10 hm).2 k hk)
          rw [hc2, zcN (by omega)]
          exact ⟨by omega, rfl⟩
        have cls : ∃ M2, (∀ v, v = zfR x (zors (zfO S (fun k => (M.1 69 (40 * r + i' + k)).toNatClampNeg) (fun k => M.1 69 (40 * o + j' + k)) n) 10) (zca (zswb S (fun k => (M.1 69 (40 * r + i' + k)).toNatClampNeg) (fun k => M.1 69 (40 * o + j' + k)) n) (S 0) (S 0) 0) (zga (zswb S (fun k => (M.1 69 (40 * r + i' + k)).toNatClampNeg) (fun k => M.1 69 (40 * o + j' + k)) n) (S 0) (S 0) 0) → (zenv zbt (d + 1)).1 109 [.ref 0, .int x, .int (nI r), .int (nI i'), .int (nI o), .int (nI j'), .int (nI n)] M = some (v, zw M2 0 9 0)) ∧ zFr [27, 28, 29, 30, 31, 32, 33] M1 M2 := by
          have pre : ∀ (P : Option ZO), (zenv zbt d).1 129 [.int (nI r), .int (nI o), .int (nI n)] M = some (1, M) := fun _ => by rw [s_areRows (by omega), zbi_t hg]
          by_cases x0 : x = 0
          · obtain ⟨M2, e2, f2⟩ := s_overs (d := d) (by omega) hI.wf hI1.sh hn hT (fun k hk => (hcs k hk).1)
            refine ⟨M2, fun v hv => ?_, f2⟩
            rw [hv]
            apply c_X7_fits
            apply zL_of; rw [e_X7_fits_0, s_isThereC (by omega) hI, Option.bind_some]
            dsimp only
            rw [zbi_t h0, if_neg zn10, if_neg (Int32.not_lt.mpr hx.1), if_neg (Int32.not_lt.mpr hx.2), pre none, Option.bind_some]
            dsimp only
            rw [if_neg zn10, e1, Option.bind_some]
            dsimp only
            rw [if_pos zn0, if_pos x0, e2, Option.bind_some]
            dsimp only
            rw [s_fine (by omega), Option.bind_some]
            unfold zfR
            rw [if_pos x0]; rfl
          · by_cases x1 : x = 1
            · obtain ⟨M2, e2, f2⟩ := s_countSw (d := d) (by omega) hI.wf hI1.sh hn hT (fun k hk => (hcs k hk).1)
              refine ⟨M2, fun v hv => ?_, f2⟩
              rw [hv]
              apply c_X7_fits
              apply zL_of; rw [e_X7_fits_0, s_isThereC (by omega) hI, Option.bind_some]
              dsimp only
              rw [zbi_t h0, if_neg zn10, if_neg (Int32.not_lt.mpr hx.1), if_neg (Int32.not_lt.mpr hx.2), pre none, Option.bind_some]
              dsimp only
              rw [if_neg zn10, e1, Option.bind_some]
              dsimp only
              rw [if_pos zn0, if_neg x0, if_pos x1, e2, Option.bind_some]
              dsimp only
              rw [s_fine (by omega), Option.bind_some]
              unfold zfR
              rw [if_neg x0, if_pos x1]; rfl
            · obtain ⟨M2, e2, f2⟩ := s_firstSw (d := d) (by omega) hI.wf hI1.sh hn hT (fun k hk => (hcs k hk).1)
              refine ⟨M2, fun v hv => ?_, f2⟩
              rw [hv]
              apply c_X7_fits
              apply zL_of; rw [e_X7_fits_0, s_isThereC (by omega) hI, Option.bind_some]
              dsimp only
              rw [zbi_t h0, if_neg zn10, if_neg (Int32.not_lt.mpr hx.1), if_neg (Int32.not_lt.mpr hx.2), pre none, Option.bind_some]
              dsimp only
              rw [if_neg zn10, e1, Option.bind_some]
              dsimp only
              rw [if_pos zn0, if_neg x0, if_neg x1, e2, Option.bind_some]
              dsimp only
              rw [s_fine (by omega), Option.bind_some]
              unfold zfR
              rw [if_neg x0, if_neg x1]; rfl
        obtain ⟨M2, cl, f2⟩ := cls
        have hI2 := hI1.fr (f2.mono (by decide))
        have hI3 := hI2.st 0
        have fa : zFr [0, 27, 28, 29, 30, 31, 32, 33, 63, 64, 65, 66] M (zw M2 0 9 0) := ((f1.mono (by decide)).trans (f2.mono (by decide))).w (by decide)
        have fb : zFr [0, 27, 28, 29, 30, 31, 32, 33, 63, 64, 65, 66] M (zw (zw M2 0 9 0) 66 4 0) := fa.w (by decide)
        obtain ⟨M3, e3, f3, hM3⟩ := l_fitsO (d := d) (by omega) hI.wf hI3.md hr ho hi' hj' hn (cs := fun k => (M.1 69 (40 * r + i' + k)).toNatClampNeg) (vs := fun k => M.1 69 (40 * o + j' + k)) (fun k hk => by rw [(fb 69 (by decide)).1]; exact (hcs k hk).2) (fun k hk => by rw [(fb 69 (by decide)).1]) (fun k hk => (hcs k hk).1) x
        refine ⟨_, zw M2 0 9 0, M3, S, cl _ rfl, ?_, hI3.up72 f3 hM3⟩
        have hM2 : zMod S (zw M2 0 9 0) := hI2.md.fr (zFr.rf.w (cs := [0]) (by decide)) (by decide) (by decide)
        have e4 := s_findingOf (d := d) (by omega) hI.wf hM2 hr ho hn (hR1.fr hr fa (fun c c1 c2 => by simp; omega) (by decide) (by decide)) (hR2.fr ho fa (fun c c1 c2 => by simp; omega) (by decide) (by decide)) (nI i') (nI j')
        rw [zcN (show i' < 2 ^ 31 by omega), (fa 69 (by decide)).1, hf] at e4
        apply c_X8_fits
        apply zL_of; rw [e_X8_fits_0, hM2.1 0 (by decide), if_neg (nI_ne0 (by omega) (by omega)), s_in (by omega), Option.bind_some]
        dsimp only
        rw [zbi_t hx, if_neg zn10, s_isRowM (by omega), Option.bind_some]
        dsimp only
        rw [g1, zbi_t rfl, if_neg zn10, s_isRowM (by omega), Option.bind_some]
        dsimp only
        rw [g2, zbi_t rfl, if_neg zn10, s_in (by omega), Option.bind_some]
        dsimp only
        rw [zbi_t g3, if_neg zn10, e4, Option.bind_some]
        dsimp only
        rw [if_pos (by decide), hM2.1 23 (by decide)]
        exact zPo_go e3
      · have hf6 := zfnd_lt (R1 := R1) (R2 := R2) (it := fun k => M.1 69 (40 * r + i.toNatClampNeg + k)) (N := S 0) (n := n) (i := i) (j := j)
        have fa : zFr [0, 63, 64, 65] M (zw M1 0 9 (nI (zfnd R1 R2 (fun k => M.1 69 (40 * r + i.toNatClampNeg + k)) (S 0) i j n))) := (f1.mono (by decide)).w (by decide)
        have e4 := s_findingOf (d := d) (by omega) hI.wf (hI.md.fr fa (by decide) (by decide)) hr ho hn (hR1.fr hr fa (fun c c1 c2 => by simp; omega) (by decide) (by decide)) (hR2.fr ho fa (fun c c1 c2 => by simp; omega) (by decide) (by decide)) i j
        rw [(fa 69 (by decide)).1] at e4
        have hM2 := hI.md.fr fa (by decide) (by decide)
        generalize zfnd R1 R2 (fun k => M.1 69 (40 * r + i.toNatClampNeg + k)) (S 0) i j n = f at *
        refine ⟨-1000010 - nI f, zw M1 0 9 (nI f), zw (zw M1 0 9 (nI f)) 66 4 (nI f), S, ?_, ?_, hI1.st (nI f)⟩
        · apply c_X7_fits
          apply zL_of; rw [e_X7_fits_0, s_isThereC (by omega) hI, Option.bind_some]
          dsimp only
          rw [zbi_t h0, if_neg zn10, if_neg (Int32.not_lt.mpr hx.1), if_neg (Int32.not_lt.mpr hx.2), s_areRows (by omega), Option.bind_some]
          dsimp only
          rw [zbi_t hg, if_neg zn10, e1, Option.bind_some]
          dsimp only
          rw [if_neg (nI_ne0 (by omega) (by omega)), s_found (by omega), Option.bind_some]; rfl
        · apply c_X8_fits
          apply zL_of; rw [e_X8_fits_0, hM2.1 0 (by decide), if_neg (nI_ne0 (by omega) (by omega)), s_in (by omega), Option.bind_some]
          dsimp only
          rw [zbi_t hx, if_neg zn10, s_isRowM (by omega), Option.bind_some]
          dsimp only
          rw [g1, zbi_t rfl, if_neg zn10, s_isRowM (by omega), Option.bind_some]
          dsimp only
          rw [g2, zbi_t rfl, if_neg zn10, s_in (by omega), Option.bind_some]
          dsimp only
          rw [zbi_t g3, if_neg zn10, e4, Option.bind_some]
          dsimp only
          rw [if_neg (nI_nle (by omega) (by omega)), s_finds (by omega), Option.bind_some]; rfl
    · refine ⟨-1000001, M, M, S, ?_, ?_, hI⟩
      · apply c_X7_fits
        apply zL_of; rw [e_X7_fits_0, s_isThereC (by omega) hI, Option.bind_some]
        dsimp only
        rw [zbi_t h0, if_neg zn10, if_neg (Int32.not_lt.mpr hx.1), if_neg (Int32.not_lt.mpr hx.2), s_areRows (by omega), Option.bind_some]
        dsimp only
        rw [zbi_f hg, if_pos rfl]; rfl
      · apply c_X8_fits
        apply zL_of; rw [e_X8_fits_0, hI.md.1 0 (by decide), if_neg (nI_ne0 (by omega) (by omega)), s_in (by omega), Option.bind_some]
        dsimp only
        rw [zbi_t hx, if_neg zn10, s_isRowM (by omega), Option.bind_some]
        dsimp only
        cases q1 : zin r 8
        · rw [zbi_f (by decide), if_pos rfl]; rfl
        rw [zbi_t rfl, if_neg zn10, s_isRowM (by omega), Option.bind_some]
        dsimp only
        cases q2 : zin o 8
        · rw [zbi_f (by decide), if_pos rfl]; rfl
        rw [zbi_t rfl, if_neg zn10, s_in (by omega), Option.bind_some]
        dsimp only
        rw [zbi_f (fun q => hg ⟨q1, q2, q⟩), if_pos rfl]; rfl
  · refine ⟨-1000001, M, M, S, ?_, ?_, hI⟩
    · apply c_X7_fits
      apply zL_of; rw [e_X7_fits_0, s_isThereC (by omega) hI, Option.bind_some]
      dsimp only
      rw [zbi_t h0, if_neg zn10]
      by_cases q1 : x < 0
      · rw [if_pos q1]; rfl
      · rw [if_neg q1, if_pos (Int32.not_le.mp (fun q2 => hx ⟨Int32.not_lt.mp q1, q2⟩))]; rfl
    · apply c_X8_fits
      apply zL_of; rw [e_X8_fits_0, hI.md.1 0 (by decide), if_neg (nI_ne0 (by omega) (by omega)), s_in (by omega), Option.bind_some]
      dsimp only
      rw [zbi_f hx, if_pos rfl]; rfl
end ZX49

/-! best and thrift alike; the trace -/
def zhG (S : Nat → Nat) (c : Nat) (a s : Nat) : Nat := if zfit S c s then (if a = 0 ∨ zpay S s < zpay S a then s else a) else a
def zchp (S : Nat → Nat) (c : Nat) : Nat := (zHL S).foldl (zhG S c) 0
theorem zhG_lt {S : Nat → Nat} {c a s N : Nat} (ha : a < N) (hs : s < N) : zhG S c a s < N := by
  unfold zhG
  split
  · split <;> assumption
  · exact ha
theorem zfold_ok {g : Nat → Nat → Nat} {Q : Nat → Prop} : ∀ (L : List Nat) (a : Nat), Q a → (∀ s, s ∈ L → ∀ a, Q a → Q (g a s)) → Q (L.foldl g a)
  | [], a, ha, _ => ha
  | s :: L, a, ha, h => zfold_ok L (g a s) (h s List.mem_cons_self a ha) (fun t ht => h t (List.mem_cons_of_mem _ ht))
theorem zchp_ok {S : Nat → Nat} {c : Nat} : zchp S c = 0 ∨ (zchp S c < 2 ^ S 0 ∧ zhang S (zchp S c) = true ∧ zheld S (zchp S c) = true) := by
  refine zfold_ok (g := zhG S c) (Q := fun a => a = 0 ∨ (a < 2 ^ S 0 ∧ zhang S a = true ∧ zheld S a = true)) (zHL S) 0 (Or.inl rfl) (fun s hs a ha => ?_)
  unfold zhG
  split
  · rename_i hf
    split
    · have h1 := zHL_in hs
      unfold zfit at hf
      rw [Bool.and_eq_true] at hf
      exact Or.inr ⟨h1.1, h1.2, hf.1⟩
    · exact ha
  · exact ha
theorem zbst_ok {S : Nat → Nat} {c : Nat} : zbst S c = 0 ∨ (zbst S c < 2 ^ S 0 ∧ zhang S (zbst S c) = true ∧ zheld S (zbst S c) = true) := by
  refine zfold_ok (g := zbG S c) (Q := fun a => a = 0 ∨ (a < 2 ^ S 0 ∧ zhang S a = true ∧ zheld S a = true)) (zHL S) 0 (Or.inl rfl) (fun s hs a ha => ?_)
  unfold zbG
  split
  · rename_i hf
    split
    · have h1 := zHL_in hs
      unfold zfit at hf
      rw [Bool.and_eq_true] at hf
      exact Or.inr ⟨h1.1, h1.2, hf.1⟩
    · exact ha
  · exact ha
theorem zbst_lt {S : Nat → Nat} {c : Nat} : zbst S c < 2 ^ S 0 := by
  rcases zbst_ok (S := S) (c := c) with h | h
  · rw [h]; exact Nat.two_pow_pos _
  · exact h.1
theorem zchp_lt {S : Nat → Nat} {c : Nat} : zchp S c < 2 ^ S 0 := by
  rcases zchp_ok (S := S) (c := c) with h | h
  · rw [h]; exact Nat.two_pow_pos _
  · exact h.1
section ZX17
variable {d : Nat} {M : ZM} {S : Nat → Nat} {b : Nat}
theorem s_cheapC (hd : 3 ≤ d) (hb : zsh b) (hW : zwf S) (hS : zSheet S b M) (hF : zFin S M) (hP : ∀ i x, (zHL S)[i]? = some x → M.1 56 i = nI (zpay S x)) {c : Nat} (hc : c < S 2) : (zenv zbt d).1 24 [.ref 53, .ref b, .int (nI c)] M = some (nI (zchp S c), M) := by
  obtain ⟨d, rfl⟩ : ∃ e, d = e + 1 := ⟨d - 1, by omega⟩
  have hlen := zHL_len hW
  have hp := zpow10 hW.n
  have hacc : ∀ k, ((zHL S).take k).foldl (zhG S c) 0 < 2 ^ S 0 := fun k => zfoldl_lt (fun a s ha hs => zhG_lt ha hs) _ 0 (Nat.two_pow_pos _) (fun s hs => (zHL_in (List.mem_of_mem_take hs)).1)
  have key : ∀ k, k ≤ (zHL S).length → zL (zenv zbt d) tb_X2_cheapestFor cu_X2_cheapestFor 8 [some (.ref 53), some (.ref b), some (.int (nI c)), some (.int (nI (((zHL S).take k).foldl (zhG S c) 0))), some (.int (nI (if ((zHL S).take k).foldl (zhG S c) 0 = 0 then 0 else zpay S (((zHL S).take k).foldl (zhG S c) 0)))), some (.int (nI k)), none] [] M (some (.int (nI (zchp S c))), M) := by
    apply zup
    · apply zL_of; rw [e_X2_cheapestFor_8 _ _ _ hb, hF.2.1, if_pos (nI_le (Nat.le_refl _) (by omega)), ztake_all]; rfl
    · intro k hk ih
      obtain ⟨x, hx⟩ : ∃ x, (zHL S)[k]? = some x := ⟨_, List.getElem?_eq_getElem hk⟩
      have hxm := zHL_mem hx
      have ha := hacc k
      rw [ztake_succ hx] at ih
      generalize ((zHL S).take k).foldl (zhG S c) 0 = a at ih ha ⊢
      have h55 : M.1 55 k = nI x := hF.2.2 k x hx
      have h56 : M.1 56 k = nI (zpay S x) := hP k x hx
      have hp1 := hW.pay x
      have hp2 := hW.pay a
      apply zL_of; rw [e_X2_cheapestFor_8 _ _ _ hb, hF.2.1, if_neg (nI_ge hk (by omega))]
      simp only [zck_t (zinN (show k < 275 by omega) (by decide)), zcN (show k < 2 ^ 31 by omega), s_couldServe (d := d) (by omega) hb hW hS rfl hF hP hc hx, Option.bind_some, h55, h56]
      by_cases h0 : a = 0
      · subst h0
        rw [if_pos (show nI 0 = (0 : Int32) from rfl), if_neg zn10]
        cases hf : zfit S c x
        · rw [zbi_f (by decide), if_pos rfl]
          apply zPo_go
          simpa only [zlit, nI_add, zhG, hf, Bool.false_eq_true, if_false] using ih
        · rw [zbi_t rfl, if_neg zn10]
          apply zPo_go
          simpa only [zlit, nI_add, zhG, hf, if_true, true_or, if_neg hxm.2.2] using ih
      · rw [if_neg (nI_ne0 (by omega) (by omega)), if_neg h0]
        by_cases h2 : zpay S x < zpay S a
        · rw [if_neg (nI_ge h2 (by omega)), if_neg zn10]
          cases hf : zfit S c x
          · rw [zbi_f (by decide), if_pos rfl]
            apply zPo_go
            simpa only [zlit, nI_add, zhG, hf, Bool.false_eq_true, if_false, h0] using ih
          · rw [zbi_t rfl, if_neg zn10]
            apply zPo_go
            simpa only [zlit, nI_add, zhG, hf, if_true, h2, or_true, if_neg hxm.2.2] using ih
        · rw [if_pos (nI_le (by omega) (by omega)), if_pos trivial]
          apply zPo_go
          have e : zhG S c a x = a := by
            unfold zhG
            split
            · rw [if_neg (by omega)]
            · rfl
          rw [e, if_neg h0] at ih
          simpa only [zlit, nI_add] using ih
  apply c_X2_cheapestFor
  apply zL_of; rw [e_X2_cheapestFor_0 _ _ _ hb]; apply zPo_go
  exact key 0 (by omega)
theorem zSv_of {M1 : ZM} (hW : zwf S) (p1 : ∀ s, s < 2 ^ S 0 → M1.2 78 s = lN ((if zhang S s then zpay S s + 1 else 0) * 2 ^ 32)) : zSv S M1 := fun s hs => by
  rw [p1 s hs]
  have hq := hW.pay s
  have := zlhi (p := if zhang S s then zpay S s + 1 else 0) (c := 0) (by split <;> omega) (by decide)
  rw [Nat.add_zero] at this
  exact this
theorem a_best (hI : zInv S M) (x y : Int32) : zAl 100 201 [.int x, .int y] M := by
  have hm := hI.wf.m
  have hp := zpow10 hI.wf.n
  refine zAl.of hI (r := if zin x (S 2) then (if zin y 2 then (if S (26 + x.toNatClampNeg) = 0 then (if zbst S x.toNatClampNeg = 0 then -1000000 else if y = 0 then nI (zbst S x.toNatClampNeg) else nI (ztear S (zon S) (zbst S x.toNatClampNeg))) else -1000002) else -1000001) else -1000001) (fun d hd => ?_) (fun d M hd hI => ?_)
  · obtain ⟨d, rfl⟩ : ∃ e, d = e + 1 := ⟨d - 1, by omega⟩
    cases hz : zin x (S 2)
    · refine ⟨M, ?_, zFr.rf⟩
      apply c_X7_best
      apply zL_of; rw [e_X7_best_0, s_isCustC (by omega) hI, Option.bind_some]
      dsimp only
      rw [hz, zbi_f (by decide), if_pos rfl]; rfl
    · obtain ⟨j, hj, rfl⟩ := (zin_iff (by omega)).mp hz
      rw [zcN (by omega)]
      cases hy : zin y 2
      · refine ⟨M, ?_, zFr.rf⟩
        apply c_X7_best
        apply zL_of; rw [e_X7_best_0, s_isCustC (by omega) hI, Option.bind_some]
        dsimp only
        rw [hz, zbi_t rfl, if_neg zn10, s_isEitherC (by omega), Option.bind_some]
        dsimp only
        rw [hy, zbi_f (by decide), if_pos rfl]; rfl
      · by_cases h0 : S (26 + j) = 0
        · obtain ⟨M1, e1, f1, p1⟩ := s_weigh (d := d) (by omega) (Or.inl rfl) hI.wf hI.sh hI.fi
          have hI1 := hI.fr (f1.mono (by decide))
          have hlt := zbst_lt (S := S) (c := j)
          refine ⟨M1, ?_, f1.mono (by decide)⟩
          apply c_X7_best
          apply zL_of; rw [e_X7_best_0, s_isCustC (by omega) hI, Option.bind_some]
          dsimp only
          rw [hz, zbi_t rfl, if_neg zn10, s_isEitherC (by omega), Option.bind_some]
          dsimp only
          rw [hy, zbi_t rfl, if_neg zn10, s_isServed (by omega) (Or.inl rfl) hI.wf hI.sh hj, Option.bind_some]
          dsimp only
          rw [zbi_f (fun q => q h0), if_pos rfl, e1, Option.bind_some, s_bestForC (by omega) (Or.inl rfl) hI.wf hI1.sh rfl hI1.fi p1 hj, Option.bind_some]
          dsimp only
          rw [if_pos rfl, if_pos rfl, if_pos h0]
          by_cases hb0 : zbst S j = 0
          · rw [if_pos (show nI (zbst S j) = 0 by rw [hb0]; rfl), if_pos hb0]; rfl
          · rw [if_neg (nI_ne0 (by omega) (by omega)), if_neg hb0, s_tearsOf (by omega) (Or.inl rfl) hI.wf hI1.sh (by omega), Option.bind_some]
            by_cases hy0 : y = 0
            · rw [if_pos hy0, if_pos hy0]; rfl
            · rw [if_neg hy0, if_neg hy0]; rfl
        · refine ⟨M, ?_, zFr.rf⟩
          apply c_X7_best
          apply zL_of; rw [e_X7_best_0, s_isCustC (by omega) hI, Option.bind_some]
          dsimp only
          rw [hz, zbi_t rfl, if_neg zn10, s_isEitherC (by omega), Option.bind_some]
          dsimp only
          rw [hy, zbi_t rfl, if_neg zn10, s_isServed (by omega) (Or.inl rfl) hI.wf hI.sh hj, Option.bind_some]
          dsimp only
          rw [zbi_t h0, if_neg zn10, if_neg h0]; rfl
  · obtain ⟨d, rfl⟩ : ∃ e, d = e + 1 := ⟨d - 1, by omega⟩
    cases hz : zin x (S 2)
    · refine ⟨M, ?_, zFr.rf⟩
      apply c_X8_best
      apply zL_of; rw [e_X8_best_0, s_isCustM (by omega) hI, Option.bind_some]
      dsimp only
      rw [hz, zbi_f (by decide), if_pos rfl]; rfl
    · obtain ⟨j, hj, rfl⟩ := (zin_iff (by omega)).mp hz
      have hpc := hI.wf.pc (c := j) (by omega)
      have e3 : (26 : Int32) + nI j = nI (26 + j) := nI_add 26 j
      rw [zcN (by omega)]
      cases hy : zin y 2
      · refine ⟨M, ?_, zFr.rf⟩
        apply c_X8_best
        apply zL_of; rw [e_X8_best_0, s_isCustM (by omega) hI, Option.bind_some]
        dsimp only
        rw [hz, zbi_t rfl, if_neg zn10, s_in (by omega), Option.bind_some, zbi_eq zgm2]
        dsimp only
        rw [hy, zbi_f (by decide), if_pos rfl]; rfl
      · by_cases h0 : S (26 + j) = 0
        · obtain ⟨M1, e1, f1, p1⟩ := s_surveys (d := d) (by omega) hI.wf hI.md
          have hI1 := hI.fr (f1.mono (by decide))
          have hB := zSv_of hI.wf p1
          have hlt := zbst_lt (S := S) (c := j)
          refine ⟨M1, ?_, f1.mono (by decide)⟩
          apply c_X8_best
          apply zL_of; rw [e_X8_best_0, s_isCustM (by omega) hI, Option.bind_some]
          dsimp only
          rw [hz, zbi_t rfl, if_neg zn10, s_in (by omega), Option.bind_some, zbi_eq zgm2]
          dsimp only
          rw [hy, zbi_t rfl, if_neg zn10, e3, zck_t (zinN (by omega) (by decide)), hI.md.at (by omega), h0, if_pos (by decide), e1, Option.bind_some, s_bestForM (by omega) hI.wf hI1.md hB hj, Option.bind_some]
          dsimp only
          rw [if_pos rfl, if_pos rfl, if_pos rfl]
          by_cases hb0 : zbst S j = 0
          · rw [if_pos (show nI (zbst S j) = 0 by rw [hb0]; rfl), if_pos hb0]; rfl
          · rw [if_neg (nI_ne0 (by omega) (by omega)), if_neg hb0, s_mtears (by omega) hI.wf hI1.md (by omega), Option.bind_some]
            by_cases hy0 : y = 0
            · rw [if_pos hy0, if_pos hy0]; rfl
            · rw [if_neg hy0, if_neg hy0]; rfl
        · refine ⟨M, ?_, zFr.rf⟩
          apply c_X8_best
          apply zL_of; rw [e_X8_best_0, s_isCustM (by omega) hI, Option.bind_some]
          dsimp only
          rw [hz, zbi_t rfl, if_neg zn10, s_in (by omega), Option.bind_some, zbi_eq zgm2]
          dsimp only
          rw [hy, zbi_t rfl, if_neg zn10, e3, zck_t (zinN (by omega) (by decide)), hI.md.at (by omega), if_neg (show ¬ (nI (S (26 + j)) ≤ 0) from nI_nle (by omega) (by omega)), if_neg h0]; rfl
theorem a_trace (hI : zInv S M) (x : Int32) : zAl 117 228 [.int x] M := by
  obtain ⟨t, ht, t1, t2, t3⟩ := hI.mi.2.2.1
  intro d hd
  obtain ⟨d, rfl⟩ : ∃ e, d = e + 1 := ⟨d - 1, by omega⟩
  refine ⟨if zin x t then M.1 62 x.toNatClampNeg else -1000000, M, M, S, ?_, ?_, hI⟩
  · apply c_X7_trace
    apply zL_of; rw [e_X7_trace_0, t1]
    have hg := zgd (x := x) (n := t) (by omega)
    cases hz : zin x t
    · rw [hz, zbi_f (by decide)] at hg
      by_cases h0 : x < 0
      · rw [if_pos h0]; rfl
      · rw [if_neg h0] at hg ⊢
        by_cases h1 : nI t ≤ x
        · rw [if_pos h1]; rfl
        · rw [if_neg h1] at hg; exact absurd hg (by decide)
    · obtain ⟨j, hj, rfl⟩ := (zin_iff (by omega)).mp hz
      rw [if_neg (nI_pos (by omega)), if_neg (nI_ge hj (by omega)), zck_t (zinN (by omega) (by decide))]; rfl
  · apply c_X8_trace
    apply zL_of; rw [e_X8_trace_0, t2, s_in (by omega), Option.bind_some, zbi_eq (zgm (by omega))]
    dsimp only
    cases hz : zin x t
    · rw [zbi_f (by decide), if_pos rfl]; rfl
    · obtain ⟨j, hj, rfl⟩ := (zin_iff (by omega)).mp hz
      rw [zbi_t rfl, if_neg zn10, zck_t (zinN (by omega) (by decide)), zcN (by omega), ← t3 j hj]; rfl
end ZX17

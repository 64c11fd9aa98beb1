/-! The best piece, the cheapest, how many: both ways -/
def zrank (S : Nat → Nat) (s : Nat) : Nat := 16 * ztear S (zon S) s + zpop s
def zbG (S : Nat → Nat) (c : Nat) (a s : Nat) : Nat := if zfit S c s then (if a = 0 ∨ zrank S s < zrank S a then s else a) else a
def zbst (S : Nat → Nat) (c : Nat) : Nat := (zHL S).foldl (zbG S c) 0
def zcG (S : Nat → Nat) (c : Nat) (n s : Nat) : Nat := n + (if zfit S c s then 1 else 0)
def zways (S : Nat → Nat) (c : Nat) : Nat := (zHL S).foldl (zcG S c) 0
def zcntG (S : Nat → Nat) (n s : Nat) : Nat := n + (if zheld S s then 1 else 0)
def zcntA (S : Nat → Nat) : Nat := (zHL S).foldl (zcntG S) 0
theorem zbG_lt {S : Nat → Nat} {c a s N : Nat} (ha : a < N) (hs : s < N) : zbG S c a s < N := by
  unfold zbG
  split
  · split <;> assumption
  · exact ha
theorem zfoldl_lt {g : Nat → Nat → Nat} {N : Nat} (hg : ∀ a s, a < N → s < N → g a s < N) : ∀ (L : List Nat) (a : Nat), a < N → (∀ s, s ∈ L → s < N) → L.foldl g a < N
  | [], a, ha, _ => ha
  | s :: L, a, ha, h => zfoldl_lt hg L (g a s) (hg a s ha (h s List.mem_cons_self)) (fun t ht => h t (List.mem_cons_of_mem _ ht))
theorem zHL_in {S : Nat → Nat} {s : Nat} (h : s ∈ zHL S) : s < 2 ^ S 0 ∧ zhang S s = true := by
  unfold zHL at h
  rw [List.mem_filter, List.mem_range] at h
  exact h
theorem zfold_cnt_le {p : Nat → Bool} : ∀ (L : List Nat) (a : Nat), L.foldl (fun n s => n + (if p s then 1 else 0)) a ≤ a + L.length
  | [], a => Nat.le_refl _
  | s :: L, a => by
    have := zfold_cnt_le (p := p) L (a + (if p s then 1 else 0))
    rw [List.foldl_cons, List.length_cons]
    split at this <;> simp_all <;> omega
section ZX13
variable {d : Nat} {M : ZM} {S : Nat → Nat} {b : Nat}
theorem s_couldServe (hd : 2 ≤ d) (hb : zsh b) (hW : zwf S) (hS : zSheet S b M) {S0 : Nat → Nat} (hL : zHL S0 = zHL S) (hF : zFin S0 M) (hP : ∀ i x, (zHL S)[i]? = some x → M.1 56 i = nI (zpay S x)) {c i x : Nat} (hc : c < S 2) (hi : (zHL S)[i]? = some x) : (zenv zbt d).1 13 [.ref 53, .ref b, .int (nI c), .int (nI i)] M = some (zbi (zfit S c x = true), M) := by
  obtain ⟨d, rfl⟩ : ∃ e, d = e + 1 := ⟨d - 1, by omega⟩
  have hlen := zHL_len hW
  have hlt := (List.getElem?_eq_some_iff.mp hi).1
  have hx := zHL_mem hi
  have hp := zpow10 hW.n
  have hpay := hW.pay x
  have h55 : M.1 55 i = nI x := hF.2.2 i x (by rw [hL]; exact hi)
  apply c_X2_couldServe
  apply zL_of; rw [e_X2_couldServe_0 _ _ _ hb, zck_t (zinN (by omega) (by decide)), zcN (by omega), h55, s_holds (by omega) hb hW hS (by omega), Option.bind_some]
  dsimp only
  by_cases hh : zdif x (zon S) = 0
  · rw [zbi_t hh, if_neg zn10, zck_t (zinN (by omega) (by decide)), hP i x hi, s_suits (by omega) hb hW hS hc (by omega), Option.bind_some]
    dsimp only
    have e : (zfit S c x = true) = (S (13 + c) ≤ zpay S x ∧ zpay S x ≤ S (18 + c)) := by
      unfold zfit zheld
      rw [hh]
      simp
    simp only [e]
    by_cases h2 : S (13 + c) ≤ zpay S x ∧ zpay S x ≤ S (18 + c)
    · rw [zbi_t h2, if_neg zn10]; rfl
    · rw [zbi_f h2, if_pos rfl]; rfl
  · rw [zbi_f hh, if_pos rfl, zbi_f]
    · rfl
    · intro q
      unfold zfit zheld at q
      rw [Bool.and_eq_true, beq_iff_eq] at q
      exact hh q.1
theorem s_weigh (hd : 4 ≤ d) (hb : zsh b) (hW : zwf S) (hS : zSheet S b M) (hF : zFin S M) : ∃ M', (zenv zbt d).2.2 11 [.ref 53, .ref b] M = some M' ∧ zFr [56] M M' ∧ ∀ i x, (zHL S)[i]? = some x → M'.1 56 i = nI (zpay S x) := by
  obtain ⟨d, rfl⟩ : ∃ e, d = e + 1 := ⟨d - 1, by omega⟩
  have hlen := zHL_len hW
  have hp := zpow10 hW.n
  have hbc : ∀ j, j < 7 → b + j ∉ [56] := by
    intro j hj
    rcases hb with rfl | rfl <;> simp <;> omega
  have key : ∀ k, k ≤ (zHL S).length → ∀ Mk, zFr [56] M Mk → (∀ i x, i < k → (zHL S)[i]? = some x → Mk.1 56 i = nI (zpay S x)) → ∃ M', zL (zenv zbt d) tb_X2_weigh cu_X2_weigh 2 [some (.ref 53), some (.ref b), some (.int (nI k))] [] Mk (none, M') ∧ zFr [56] M M' ∧ ∀ i x, (zHL S)[i]? = some x → M'.1 56 i = nI (zpay S x) := by
    apply zup
    · intro Mk hf hv
      refine ⟨Mk, ?_, hf, fun i x hi => hv i x (List.getElem?_eq_some_iff.mp hi).1 hi⟩
      apply zL_of; rw [e_X2_weigh_2 _ _ _ hb, (hf 53 (by decide)).1, hF.2.1, if_pos (nI_le (Nat.le_refl _) (by omega))]; rfl
    · intro k hk ih Mk hf hv
      obtain ⟨x, hx⟩ : ∃ x, (zHL S)[k]? = some x := ⟨_, List.getElem?_eq_getElem hk⟩
      have hxm := zHL_mem hx
      have hSk := hS.fr hf hbc
      obtain ⟨M', h1, h2, h3⟩ := ih (zw Mk 56 k (nI (zpay S x))) (hf.w (by decide)) (by
        intro i y hi hy
        rw [zw_at]
        by_cases e : i = k
        · subst e
          rw [if_pos ⟨rfl, rfl⟩]
          rw [hx] at hy
          cases hy
          rfl
        · rw [if_neg (fun q => e q.2)]
          exact hv i y (by omega) hy)
      refine ⟨M', ?_, h2, h3⟩
      apply zL_of; rw [e_X2_weigh_2 _ _ _ hb, (hf 53 (by decide)).1, hF.2.1, if_neg (nI_ge hk (by omega)), zck_t (zinN (by omega) (by decide)), zcN (by omega), (hf 55 (by decide)).1, hF.2.2 k x hx, s_paysOf (by omega) hb hW hSk (by omega), Option.bind_some]
      dsimp only
      rw [zck_t (zinN (by omega) (by decide))]
      apply zPo_go
      simpa only [zlit, nI_add] using h1
  obtain ⟨M', h1, h2, h3⟩ := key 0 (by omega) M zFr.rf (fun i x hi _ => by omega)
  refine ⟨M', ?_, h2, h3⟩
  apply c_X2_weigh
  apply zL_of; rw [e_X2_weigh_0 _ _ _ hb]
  exact zPo_go h1
theorem s_countAll (hd : 2 ≤ d) (hb : zsh b) (hW : zwf S) (hS : zSheet S b M) (hF : zFin S M) : (zenv zbt d).1 14 [.ref 53, .ref b] M = some (nI (zcntA S), M) := by
  obtain ⟨d, rfl⟩ : ∃ e, d = e + 1 := ⟨d - 1, by omega⟩
  have hlen := zHL_len hW
  have hp := zpow10 hW.n
  have key : ∀ k, k ≤ (zHL S).length → zL (zenv zbt d) tb_X2_countAll cu_X2_countAll 4 [some (.ref 53), some (.ref b), some (.int (nI (((zHL S).take k).foldl (zcntG S) 0))), some (.int (nI k))] [] M (some (.int (nI (zcntA S))), M) := by
    apply zup
    · apply zL_of; rw [e_X2_countAll_4 _ _ _ hb, hF.2.1, if_pos (nI_le (Nat.le_refl _) (by omega)), ztake_all]; rfl
    · intro k hk ih
      obtain ⟨x, hx⟩ : ∃ x, (zHL S)[k]? = some x := ⟨_, List.getElem?_eq_getElem hk⟩
      have hxm := zHL_mem hx
      rw [ztake_succ hx] at ih
      apply zL_of; rw [e_X2_countAll_4 _ _ _ hb, hF.2.1, if_neg (nI_ge hk (by omega)), zck_t (zinN (by omega) (by decide)), zcN (by omega), hF.2.2 k x hx, s_holds (by omega) hb hW hS (by omega), Option.bind_some]
      dsimp only
      by_cases hh : zdif x (zon S) = 0
      · rw [zbi_t hh, if_neg zn10]
        apply zPo_go
        have e : zheld S x = true := by unfold zheld; rw [hh]; rfl
        simpa only [zlit, nI_add, zcntG, e, if_true] using ih
      · rw [zbi_f hh, if_pos rfl]
        apply zPo_go
        have e : zheld S x = false := by
          unfold zheld
          exact beq_eq_false_iff_ne.mpr hh
        simpa only [zlit, nI_add, zcntG, e, Bool.false_eq_true, if_false] using ih
  apply c_X2_countAll
  apply zL_of; rw [e_X2_countAll_0 _ _ _ hb]; apply zPo_go
  exact key 0 (by omega)
theorem s_rankOf (hd : 3 ≤ d) (hb : zsh b) (hW : zwf S) (hS : zSheet S b M) {a : Nat} (ha : a < 1024) : (zenv zbt d).1 22 [.ref b, .int (nI a)] M = some (nI (zrank S a), M) := by
  obtain ⟨d, rfl⟩ : ∃ e, d = e + 1 := ⟨d - 1, by omega⟩
  apply c_X2_rankOf
  apply zL_of; rw [e_X2_rankOf_0 _ _ _ hb, s_tearsOf (by omega) hb hW hS ha, Option.bind_some]
  dsimp only
  rw [s_bitCount (by omega) ha, Option.bind_some]
  dsimp only
  simp only [zlit, pk_mul, nI_add]
  rfl
theorem s_bestForC (hd : 4 ≤ d) (hb : zsh b) (hW : zwf S) (hS : zSheet S b M) {S0 : Nat → Nat} (hL : zHL S0 = zHL S) (hF : zFin S0 M) (hP : ∀ i x, (zHL S)[i]? = some x → M.1 56 i = nI (zpay S x)) {c : Nat} (hc : c < S 2) : (zenv zbt d).1 21 [.ref 53, .ref b, .int (nI c)] M = some (nI (zbst S c), M) := by
  obtain ⟨d, rfl⟩ : ∃ e, d = e + 1 := ⟨d - 1, by omega⟩
  have hlen := zHL_len hW
  have hp := zpow10 hW.n
  have hrk : ∀ x, zrank S x < 2000 := by
    intro x
    have h1 := hW.tear (zon S) x
    have h2 := zpop_le x
    unfold zrank
    omega
  have hacc : ∀ k, ((zHL S).take k).foldl (zbG S c) 0 < 2 ^ S 0 := fun k => zfoldl_lt (fun a s ha hs => zbG_lt ha hs) _ 0 (Nat.two_pow_pos _) (fun s hs => (zHL_in (List.mem_of_mem_take hs)).1)
  have key : ∀ k, k ≤ (zHL S).length → zL (zenv zbt d) tb_X2_bestFor cu_X2_bestFor 8 [some (.ref 53), some (.ref b), some (.int (nI c)), some (.int (nI (((zHL S).take k).foldl (zbG S c) 0))), some (.int (nI (if ((zHL S).take k).foldl (zbG S c) 0 = 0 then 0 else zrank S (((zHL S).take k).foldl (zbG S c) 0)))), some (.int (nI k)), none] [] M (some (.int (nI (zbst S c))), M) := by
    apply zup
    · apply zL_of; rw [e_X2_bestFor_8 _ _ _ hb, hF.2.1, hL, if_pos (nI_le (Nat.le_refl _) (by omega)), ztake_all]; rfl
    · intro k hk ih
      obtain ⟨x, hx⟩ : ∃ x, (zHL S)[k]? = some x := ⟨_, List.getElem?_eq_getElem hk⟩
      have hxm := zHL_mem hx
      have ha := hacc k
      rw [ztake_succ hx] at ih
      generalize ((zHL S).take k).foldl (zbG S c) 0 = a at ih ha ⊢
      have h55 : M.1 55 k = nI x := hF.2.2 k x (by rw [hL]; exact hx)
      apply zL_of; rw [e_X2_bestFor_8 _ _ _ hb, hF.2.1, hL, if_neg (nI_ge hk (by omega)), s_couldServe (by omega) hb hW hS hL hF hP hc hx, Option.bind_some]
      dsimp only
      cases hf : zfit S c x
      · rw [zbi_f (by decide), if_pos rfl]
        apply zPo_go
        simpa only [zlit, nI_add, zbG, hf, Bool.false_eq_true, if_false] using ih
      · rw [zbi_t rfl, if_neg zn10, zck_t (zinN (by omega) (by decide)), zcN (by omega), h55, s_rankOf (by omega) hb hW hS (by omega), Option.bind_some]
        dsimp only
        have hr1 := hrk x
        have hr2 := hrk a
        by_cases h0 : a = 0
        · subst h0
          rw [if_pos rfl, zck_t (zinN (by omega) (by decide)), h55]
          apply zPo_go
          simpa only [zlit, nI_add, zbG, hf, if_true, true_or, if_neg hxm.2.2] using ih
        · rw [if_neg (nI_ne0 (by omega) (by omega)), if_neg h0]
          by_cases h2 : zrank S x < zrank S a
          · rw [if_neg (nI_ge h2 (by omega)), zck_t (zinN (by omega) (by decide)), h55]
            apply zPo_go
            simpa only [zlit, nI_add, zbG, hf, if_true, h2, or_true, if_neg hxm.2.2] using ih
          · rw [if_pos (nI_le (by omega) (by omega))]
            apply zPo_go
            simpa only [zlit, nI_add, zbG, hf, if_true, h0, h2, or_self, if_false] using ih
  apply c_X2_bestFor
  apply zL_of; rw [e_X2_bestFor_0 _ _ _ hb]; apply zPo_go
  exact key 0 (by omega)
theorem zcG_le (k : Nat) {c : Nat} : ((zHL S).take k).foldl (zcG S c) 0 ≤ (zHL S).length := by
  have h := zfold_cnt_le (p := fun s => zfit S c s) ((zHL S).take k) 0
  have h2 : ((zHL S).take k).length ≤ (zHL S).length := by rw [List.length_take]; omega
  unfold zcG
  omega
theorem s_countFor (hd : 3 ≤ d) (hb : zsh b) (hW : zwf S) (hS : zSheet S b M) (hF : zFin S M) (hP : ∀ i x, (zHL S)[i]? = some x → M.1 56 i = nI (zpay S x)) {c : Nat} (hc : c < S 2) : (zenv zbt d).1 23 [.ref 53, .ref b, .int (nI c)] M = some (nI (zways S c), M) := by
  obtain ⟨d, rfl⟩ : ∃ e, d = e + 1 := ⟨d - 1, by omega⟩
  have hlen := zHL_len hW
  have key : ∀ k, k ≤ (zHL S).length → zL (zenv zbt d) tb_X2_countFor cu_X2_countFor 5 [some (.ref 53), some (.ref b), some (.int (nI c)), some (.int (nI (((zHL S).take k).foldl (zcG S c) 0))), some (.int (nI k))] [] M (some (.int (nI (zways S c))), M) := by
    apply zup
    · apply zL_of; rw [e_X2_countFor_5 _ _ _ hb, hF.2.1, if_pos (nI_le (Nat.le_refl _) (by omega)), ztake_all]; rfl
    · intro k hk ih
      obtain ⟨x, hx⟩ : ∃ x, (zHL S)[k]? = some x := ⟨_, List.getElem?_eq_getElem hk⟩
      rw [ztake_succ hx] at ih
      apply zL_of; rw [e_X2_countFor_5 _ _ _ hb, hF.2.1, if_neg (nI_ge hk (by omega)), s_couldServe (by omega) hb hW hS rfl hF hP hc hx, Option.bind_some]
      dsimp only
      cases hf : zfit S c x
      · rw [zbi_f (by decide), if_pos rfl]
        apply zPo_go
        simpa only [zlit, nI_add, zcG, hf, Bool.false_eq_true, if_false] using ih
      · rw [zbi_t rfl, if_neg zn10]
        apply zPo_go
        simpa only [zlit, nI_add, zcG, hf, if_true] using ih
  apply c_X2_countFor
  apply zL_of; rw [e_X2_countFor_0 _ _ _ hb]; apply zPo_go
  exact key 0 (by omega)
end ZX13

/-! What stays; and what the class's finder learns of a sheet's form -/
theorem zw_eq (M : ZM) (c k : Nat) (v : Int32) : (zw M c k v).1 c k = v := by rw [zw_at, if_pos ⟨rfl, rfl⟩]
theorem zwl_eq (M : ZM) (c k : Nat) (v : Int64) : (zwl M c k v).2 c k = v := by rw [zwl_at, if_pos ⟨rfl, rfl⟩]
def zFr (cs : List Nat) (M M' : ZM) : Prop := ∀ c, c ∉ cs → M'.1 c = M.1 c ∧ M'.2 c = M.2 c
theorem zFr.rf {cs : List Nat} {M : ZM} : zFr cs M M := fun _ _ => ⟨rfl, rfl⟩
theorem zFr.trans {cs : List Nat} {M M1 M2 : ZM} (h1 : zFr cs M M1) (h2 : zFr cs M1 M2) : zFr cs M M2 := fun c hc => ⟨(h2 c hc).1.trans (h1 c hc).1, (h2 c hc).2.trans (h1 c hc).2⟩
theorem zFr.mono {cs cs' : List Nat} {M M1 : ZM} (h : zFr cs M M1) (hs : ∀ c, c ∈ cs → c ∈ cs') : zFr cs' M M1 := fun c hc => h c (fun q => hc (hs c q))
theorem zFr.w {cs : List Nat} {M M1 : ZM} {c k : Nat} {v : Int32} (h : zFr cs M M1) (hc : c ∈ cs) : zFr cs M (zw M1 c k v) := h.trans (fun c' h' => ⟨by
  have : c' ≠ c := fun e => h' (e ▸ hc)
  simp [zw, this], rfl⟩)
theorem zFr.wl {cs : List Nat} {M M1 : ZM} {c k : Nat} {v : Int64} (h : zFr cs M M1) (hc : c ∈ cs) : zFr cs M (zwl M1 c k v) := h.trans (fun c' h' => ⟨rfl, by
  have : c' ≠ c := fun e => h' (e ▸ hc)
  simp [zwl, this]⟩)
theorem zFr.cp {cs : List Nat} {M M1 : ZM} {a sp b dp n : Nat} (h : zFr cs M M1) (hc : b ∈ cs) : zFr cs M (zcp M1 a sp b dp n) := h.trans (fun c' h' => ⟨by
  have : c' ≠ b := fun e => h' (e ▸ hc)
  simp [zcp, this], rfl⟩)
theorem zSheet.fr {S : Nat → Nat} {b : Nat} {cs : List Nat} {M M' : ZM} (hS : zSheet S b M) (h : zFr cs M M') (hb : ∀ j, j < 7 → b + j ∉ cs) : zSheet S b M' := by
  have e : ∀ j, j < 7 → M'.1 (b + j) = M.1 (b + j) := fun j hj => (h _ (hb j hj)).1
  have e0 : M'.1 b = M.1 b := e 0 (by decide)
  unfold zSheet at hS ⊢
  rw [e0, e 1 (by decide), e 2 (by decide), e 3 (by decide), e 4 (by decide), e 5 (by decide), e 6 (by decide)]
  exact hS
theorem zMod.fr {S : Nat → Nat} {cs : List Nat} {M M' : ZM} (hS : zMod S M) (h : zFr cs M M') (h1 : 72 ∉ cs) (h2 : 74 ∉ cs) : zMod S M' := by
  unfold zMod at hS ⊢
  rw [(h 72 h1).1, (h 74 h2).1]
  exact hS
def zFin (S : Nat → Nat) (M : ZM) : Prop := (∀ a, 0 < a → a < 2 ^ S 0 → M.1 54 a = zbi (zhang S a = true)) ∧ M.1 53 3 = nI (zHL S).length ∧ ∀ i x, (zHL S)[i]? = some x → M.1 55 i = nI x
def zPys (S : Nat → Nat) (M : ZM) : Prop := ∀ i x, (zHL S)[i]? = some x → M.1 56 i = nI (zpay S x)
theorem zHL_mem {S : Nat → Nat} {i x : Nat} (h : (zHL S)[i]? = some x) : x < 2 ^ S 0 ∧ zhang S x = true ∧ x ≠ 0 := by
  have h1 := List.mem_of_getElem? h
  unfold zHL at h1
  rw [List.mem_filter, List.mem_range] at h1
  refine ⟨h1.1, h1.2, fun e => ?_⟩
  rw [e] at h1
  simp [zhang] at h1
section ZX10
variable {d : Nat} {M : ZM} {S : Nat → Nat} {b : Nat}
theorem s_hangsBy (hd : 1 ≤ d) (hb : zsh b) (hW : zwf S) (hS : zSheet S b M) {a : Nat} (ha : a < 2 ^ S 0) (hh : ∀ x, 0 < x → x < a → M.1 54 x = zbi (zhang S x = true)) : (zenv zbt d).1 10 [.ref 53, .ref b, .int (nI a)] M = some (zbi (zany (fun c => a.testBit c && ((znx (S 1) (S 0) c &&& a) != 0 && zhang S (a ^^^ 2 ^ c))) (S 0) = true), M) := by
  obtain ⟨d, rfl⟩ : ∃ e, d = e + 1 := ⟨d - 1, by omega⟩
  obtain ⟨h0, h1, h2, h3, h4, h5, h6, h7, hn, hm⟩ := hS
  have hn10 := hW.n
  have hp := zpow10 hn10
  have key : ∀ i, i ≤ S 0 → zany (fun c => a.testBit c && ((znx (S 1) (S 0) c &&& a) != 0 && zhang S (a ^^^ 2 ^ c))) i = false → zL (zenv zbt d) tb_X2_hangsByOneLess cu_X2_hangsByOneLess 2 [some (.ref 53), some (.ref b), some (.int (nI a)), some (.int (nI i)), none] [] M (some (.int (zbi (zany (fun c => a.testBit c && ((znx (S 1) (S 0) c &&& a) != 0 && zhang S (a ^^^ 2 ^ c))) (S 0) = true))), M) := by
    apply zup
    · intro hz
      apply zL_of; rw [e_X2_hangsByOneLess_2 _ _ _ hb, h1, if_pos (nI_le (Nat.le_refl _) (by omega)), zbi_f (by rw [hz]; decide)]; rfl
    · intro i hi ih hz
      have hnx := hW.nx' hi
      have hi32 : i < 32 := by omega
      have ha10 : a < 1024 := by omega
      have hand : znx (S 1) (S 0) i &&& a < 2 ^ 10 := Nat.and_lt_two_pow _ (show a < 2 ^ 10 by omega)
      apply zL_of; rw [e_X2_hangsByOneLess_2 _ _ _ hb, h1, if_neg (nI_ge hi (by omega))]
      cases ht : a.testBit i
      · rw [if_pos ((zbit0 (by omega) (by omega)).mpr ht), if_pos rfl]
        apply zPo_go
        simpa only [zlit, nI_add] using ih (by rw [zany, hz, ht]; rfl)
      · rw [if_neg (fun q => by rw [zbit0 (by omega) (by omega), ht] at q; cases q), zck_t (zinN (by omega) (by decide)), zcN (by omega), (hn i hi).1, zand]
        by_cases hx : znx (S 1) (S 0) i &&& a = 0
        · rw [if_pos (by rw [hx]; rfl), if_pos rfl]
          apply zPo_go
          simpa only [zlit, nI_add] using ih (by rw [zany, hz, ht, hx]; rfl)
        · have hx1 : a ^^^ 2 ^ i ≠ a := by
            intro e
            have e2 := congrArg (fun z => z.testBit i) e
            simp only [Nat.testBit_xor, Nat.testBit_two_pow_self, ht] at e2
            cases e2
          have hx2 : a ^^^ 2 ^ i < a := by
            refine Nat.lt_of_le_of_ne (Nat.le_of_testBit fun j hj => ?_) hx1
            by_cases e : j = i
            · rw [e]; exact ht
            · rw [Nat.testBit_xor, Nat.testBit_two_pow_of_ne (fun q => e q.symm), Bool.xor_false] at hj
              exact hj
          have hx3 : 0 < a ^^^ 2 ^ i := by
            refine Nat.pos_of_ne_zero fun e => hx ?_
            apply Nat.eq_of_testBit_eq
            intro j
            rw [Nat.testBit_and, Nat.zero_testBit]
            by_cases hj : j = i
            · subst hj
              rw [znx_irr _ (hW.sh (by omega)) j hi]; rfl
            · have e2 := congrArg (fun z => z.testBit j) e
              simp only [Nat.testBit_xor, Nat.zero_testBit, Nat.testBit_two_pow_of_ne (fun q => hj q.symm), Bool.xor_false] at e2
              rw [e2, Bool.and_false]
          rw [if_neg (nI_ne0 (by omega) (by omega)), if_neg zn10]
          have e5 : nI a ^^^ zshl 1 (nI i) = nI (a ^^^ 2 ^ i) := by rw [show zshl 1 (nI i) = nI (2 ^ i) from zshl1 hi32, zxor]
          have e6 : zin (nI (a ^^^ 2 ^ i)) 1024 = true := zinN (Nat.lt_trans hx2 ha10) (by decide)
          have e7 : (nI (a ^^^ 2 ^ i)).toNatClampNeg = a ^^^ 2 ^ i := zcN (Nat.lt_trans (Nat.lt_trans hx2 ha10) (by decide))
          rw [e5, zck_t e6, e7, hh _ hx3 hx2]
          cases hg : zhang S (a ^^^ 2 ^ i)
          · rw [zbi_f (by decide), if_pos rfl]
            apply zPo_go
            simpa only [zlit, nI_add] using ih (by rw [zany, hz, ht, hg]; simp)
          · rw [zbi_t rfl, if_neg zn10, zbi_t (zany_iff.mpr ⟨i, hi, by rw [ht, hg]; simp [hx]⟩)]
            rfl
  apply c_X2_hangsByOneLess
  apply zL_of; rw [e_X2_hangsByOneLess_0 _ _ _ hb]; apply zPo_go
  exact key 0 (by omega) rfl
end ZX10

/-! The same by the reference -/
theorem zsub_lt {a b : Nat} (ha : a < 2 ^ 30) (hb : b < 2 ^ 30) : nI a - nI b < 0 ↔ a < b := by
  rw [Int32.lt_iff_toInt_lt, pk_sub_toInt ha hb]
  show (a : Int) - b < 0 ↔ _
  omega
theorem zsub_eq {a b : Nat} (ha : a < 2 ^ 30) (hb : b < 2 ^ 30) : nI a - nI b = 0 ↔ a = b := by
  rw [← Int32.toInt_inj, pk_sub_toInt ha hb]
  show (a : Int) - b = 0 ↔ _
  omega
theorem zrank_lt {S : Nat → Nat} {x a : Nat} : zrank S x < zrank S a ↔ (ztear S (zon S) x < ztear S (zon S) a ∨ (ztear S (zon S) x = ztear S (zon S) a ∧ zpop x < zpop a)) := by
  have h1 := zpop_le x
  have h2 := zpop_le a
  unfold zrank
  omega
section ZX14
variable {d : Nat} {M : ZM} {S : Nat → Nat}
theorem zsh1 (hW : zwf S) (hM : zMod S M) : zshl 1 (M.1 72 0) = nI (2 ^ S 0) := by
  rw [hM.1 0 (by decide)]
  exact zshl1 (by have := hW.n; omega)
theorem s_bestForM (hd : 4 ≤ d) (hW : zwf S) (hM : zMod S M) (hB : zSv S M) {c : Nat} (hc : c < S 2) : (zenv zbt d).1 200 [.ref 66, .int (nI c)] M = some (nI (zbst S c), M) := by
  obtain ⟨d, rfl⟩ : ∃ e, d = e + 1 := ⟨d - 1, by omega⟩
  have hp := zpow10 hW.n
  have hp1 := Nat.two_pow_pos (S 0)
  have hE : zbst S c = (List.range (2 ^ S 0)).foldl (fun a s => if zhang S s then zbG S c a s else a) 0 := (zfold_HL (fun a s _ => rfl)).symm
  have hacc : ∀ k, k ≤ 2 ^ S 0 → (List.range k).foldl (fun a s => if zhang S s then zbG S c a s else a) 0 < 2 ^ S 0 := by
    intro k hk
    refine zfoldl_lt (N := 2 ^ S 0) (fun a s ha hs => ?_) _ 0 hp1 (fun s hs => Nat.lt_of_lt_of_le (List.mem_range.mp hs) hk)
    split
    · exact zbG_lt ha hs
    · exact ha
  have key : ∀ k, k ≤ 2 ^ S 0 → 0 < k → zL (zenv zbt d) tb_X8_bestFor cu_X8_bestFor 4 [some (.ref 66), some (.int (nI c)), some (.int (nI ((List.range k).foldl (fun a s => if zhang S s then zbG S c a s else a) 0))), some (.int (nI k)), none] [] M (some (.int (nI (zbst S c))), M) := by
    apply zup
    · intro _
      apply zL_of; rw [e_X8_bestFor_4, zsh1 hW hM, if_pos (nI_le (Nat.le_refl _) (by omega)), hE]; rfl
    · intro k hk ih h0
      have ih := ih (by omega)
      have ha := hacc k (by omega)
      rw [zrange_succ] at ih
      generalize (List.range k).foldl (fun a s => if zhang S s then zbG S c a s else a) 0 = a at ih ha ⊢
      apply zL_of; rw [e_X8_bestFor_4, zsh1 hW hM, if_neg (nI_ge hk (by omega)), s_fitsFor (by omega) hW hM hB hk hc, Option.bind_some]
      dsimp only
      by_cases hf : zhang S k = true ∧ zfit S c k = true
      · rw [zbi_t hf, if_neg zn10]
        simp only [hf.1, if_true, zbG, hf.2] at ih
        by_cases h1 : a = 0
        · subst h1
          rw [if_pos (show nI 0 = (0 : Int32) from rfl), if_pos (by decide)]
          apply zPo_go
          simpa only [zlit, nI_add, true_or, if_true] using ih
        · have t1 := hW.tear (zon S) k
          have t2 := hW.tear (zon S) a
          have p1 := zpop_le k
          have p2 := zpop_le a
          rw [if_neg (nI_ne0 (by omega) (by omega)), s_mtears (by omega) hW hM (by omega), Option.bind_some]
          dsimp only
          rw [s_mtears (by omega) hW hM (by omega), Option.bind_some]
          dsimp only
          simp only [h1, false_or, zrank_lt] at ih
          by_cases h2 : ztear S (zon S) k < ztear S (zon S) a
          · rw [if_pos ((zsub_lt (by omega) (by omega)).mpr h2)]
            apply zPo_go
            simpa only [zlit, nI_add, h2, true_or, if_true] using ih
          · rw [if_neg (fun q => h2 ((zsub_lt (by omega) (by omega)).mp q))]
            by_cases h3 : ztear S (zon S) k = ztear S (zon S) a
            · rw [if_pos ((zsub_eq (by omega) (by omega)).mpr h3), s_ones (by omega) (by omega), Option.bind_some]
              dsimp only
              rw [s_ones (by omega) (by omega), Option.bind_some]
              dsimp only
              by_cases h4 : zpop k < zpop a
              · rw [if_neg (nI_ge h4 (by omega))]
                apply zPo_go
                simpa only [zlit, nI_add, h3, h4, true_and, or_true, if_true] using ih
              · rw [if_pos (nI_le (by omega) (by omega))]
                apply zPo_go
                simpa only [zlit, nI_add, h2, h3, h4, and_false, or_self, Nat.lt_irrefl, if_false] using ih
            · rw [if_neg (fun q => h3 ((zsub_eq (by omega) (by omega)).mp q))]
              apply zPo_go
              simpa only [zlit, nI_add, h2, h3, false_and, or_self, if_false] using ih
      · rw [zbi_f hf, if_pos rfl]
        apply zPo_go
        have e : (if zhang S k = true then zbG S c a k else a) = a := by
          by_cases hz : zhang S k = true
          · rw [if_pos hz]
            unfold zbG
            rw [if_neg (fun q => hf ⟨hz, q⟩)]
          · rw [if_neg hz]
        rw [e] at ih
        simpa only [zlit, nI_add] using ih
  apply c_X8_bestFor
  apply zL_of; rw [e_X8_bestFor_0]; apply zPo_go
  have := key 1 (by omega) (by omega)
  have e0 : (List.range 1).foldl (fun a s => if zhang S s then zbG S c a s else a) 0 = 0 := by
    simp [List.range_succ, zhang]
  rw [e0] at this
  exact this
end ZX14

section ZX11
variable {d : Nat} {M : ZM} {S : Nat → Nat} {b : Nat}
/-- what the finder knows when it has looked at the sets below k -/
def zLr (S : Nat → Nat) (M : ZM) (k : Nat) (Mk : ZM) : Prop := (∀ x, 0 < x → x < k → Mk.1 54 x = zbi (zhang S x = true)) ∧ Mk.1 53 3 = nI ((List.range k).filter (fun a => zhang S a)).length ∧ (∀ (i x : Nat), ((List.range k).filter (fun a => zhang S a))[i]? = some x → Mk.1 55 i = nI x) ∧ zFr [53, 54, 55] M Mk
theorem zLr_no {k : Nat} {Mk : ZM} (h : zLr S M k Mk) (hk : 0 < k) (hz : zhang S k = false) : zLr S M (k + 1) (zw Mk 54 k 0) := by
  obtain ⟨h1, h2, h3, h4⟩ := h
  have e : (List.range (k + 1)).filter (fun a => zhang S a) = (List.range k).filter (fun a => zhang S a) := by
    rw [List.range_succ, List.filter_append]
    simp [hz]
  refine ⟨fun x h5 h6 => ?_, ?_, fun i x hi => ?_, h4.w (by decide)⟩
  · rw [zw_at]
    by_cases hx : x = k
    · subst hx; rw [if_pos ⟨rfl, rfl⟩, zbi_f (by rw [hz]; decide)]
    · rw [if_neg (fun q => hx q.2)]; exact h1 x h5 (by omega)
  · rw [zw_at, if_neg (by omega), e]; exact h2
  · rw [zw_at, if_neg (by omega)]; rw [e] at hi; exact h3 i x hi
theorem zLr_yes {k : Nat} {Mk : ZM} (h : zLr S M k Mk) (hk : 0 < k) (hz : zhang S k = true) (hl : ((List.range k).filter (fun a => zhang S a)).length < 2 ^ 31) : zLr S M (k + 1) (zw (zw (zw Mk 54 k 1) 55 ((List.range k).filter (fun a => zhang S a)).length (nI k)) 53 3 (nI (((List.range k).filter (fun a => zhang S a)).length + 1))) := by
  obtain ⟨h1, h2, h3, h4⟩ := h
  have e : (List.range (k + 1)).filter (fun a => zhang S a) = (List.range k).filter (fun a => zhang S a) ++ [k] := by
    rw [List.range_succ, List.filter_append]
    simp [hz]
  refine ⟨fun x h5 h6 => ?_, ?_, fun i x hi => ?_, ((h4.w (by decide)).w (by decide)).w (by decide)⟩
  · rw [zw_at, if_neg (by omega), zw_at, if_neg (by omega), zw_at]
    by_cases hx : x = k
    · subst hx; rw [if_pos ⟨rfl, rfl⟩, zbi_t hz]
    · rw [if_neg (fun q => hx q.2)]; exact h1 x h5 (by omega)
  · rw [zw_at, if_pos ⟨rfl, rfl⟩, e, List.length_append]; rfl
  · rw [zw_at, if_neg (by omega), zw_at]
    rw [e, List.getElem?_append] at hi
    split at hi
    · rename_i hlt
      rw [if_neg (by omega), zw_at, if_neg (by omega)]
      exact h3 i x hi
    · rename_i hge
      have hi2 := (List.getElem?_eq_some_iff.mp hi).1
      simp only [List.length_singleton] at hi2
      have e2 : i = ((List.range k).filter (fun a => zhang S a)).length := by omega
      rw [if_pos ⟨rfl, e2⟩]
      rw [e2, Nat.sub_self] at hi
      simp at hi
      rw [hi]
theorem zHL_pre {k : Nat} (hk : k ≤ 2 ^ S 0) : ((List.range k).filter (fun a => zhang S a)).length ≤ (zHL S).length := by
  unfold zHL
  obtain ⟨j, hj⟩ : ∃ j, 2 ^ S 0 = k + j := ⟨2 ^ S 0 - k, by omega⟩
  rw [hj, List.range_add, List.filter_append, List.length_append]
  omega
set_option maxHeartbeats 1000000 in
theorem s_learn (hd : 2 ≤ d) (hb : zsh b) (hW : zwf S) (hS : zSheet S b M) : ∃ M', (zenv zbt d).2.2 9 [.ref 53, .ref b] M = some M' ∧ zFr [53, 54, 55] M M' ∧ zFin S M' := by
  obtain ⟨d, rfl⟩ : ∃ e, d = e + 1 := ⟨d - 1, by omega⟩
  have h1 := hS.2.1
  have hn10 := hW.n
  have hp := zpow10 hn10
  have hp1 := Nat.two_pow_pos (S 0)
  have hbc : ∀ j, j < 7 → b + j ∉ [53, 54, 55] := by
    intro j hj
    rcases hb with rfl | rfl <;> simp <;> omega
  have key : ∀ k, k ≤ 2 ^ S 0 → 0 < k → ∀ Mk, zLr S M k Mk → ∃ M', zL (zenv zbt d) tb_X2_learn cu_X2_learn 14 [some (.ref 53), some (.ref b), some (.int (nI (2 ^ S 0))), some (.int (nI k))] [] Mk (none, M') ∧ zLr S M (2 ^ S 0) M' := by
    apply zup
    · intro _ Mk hJ
      refine ⟨Mk, ?_, hJ⟩
      apply zL_of; rw [e_X2_learn_14 _ _ _ hb, if_pos (nI_le (Nat.le_refl _) (by omega))]; rfl
    · intro k hk ih h0 Mk hJ
      have hSk := hS.fr hJ.2.2.2 hbc
      have hl : ((List.range k).filter (fun a => zhang S a)).length ≤ 275 := Nat.le_trans (zHL_pre (by omega)) (zHL_len hW)
      have hrec := zhang_rec hW hk (by omega)
      cases hz : zhang S k
      · have hJ2 := zLr_no hJ h0 hz
        obtain ⟨M', hL, hJ'⟩ := ih (by omega) _ hJ2
        refine ⟨M', ?_, hJ'⟩
        rw [hz] at hrec
        have hr1 : ¬ zpop k = 1 := by
          intro q
          rw [q] at hrec
          simp at hrec
        have hr2 : zany (fun c => k.testBit c && ((znx (S 1) (S 0) c &&& k) != 0 && zhang S (k ^^^ 2 ^ c))) (S 0) = false := by
          cases hq : zany (fun c => k.testBit c && ((znx (S 1) (S 0) c &&& k) != 0 && zhang S (k ^^^ 2 ^ c))) (S 0)
          · rfl
          · rw [hq] at hrec; simp at hrec
        have hpl := zpop_le k
        apply zL_of; rw [e_X2_learn_14 _ _ _ hb, if_neg (nI_ge hk (by omega)), if_neg (show ¬ ((1024 : Int32) ≤ nI k) from nI_ge (show k < 1024 by omega) (by decide)), s_bitCount (by omega) (by omega), Option.bind_some]
        dsimp only
        rw [if_neg (show ¬ (nI (zpop k) = 1) from fun q => hr1 ((nI_eq (by omega) (by decide)).mp q)), s_hangsBy (by omega) hb hW hSk hk hJ.1, Option.bind_some]
        dsimp only
        rw [zbi_f (by rw [hr2]; decide), if_pos rfl, zck_t (by rw [zinN (by omega) (by decide)]; rfl), zck_t (zinN (by omega) (by decide)), zcN (by omega), zw_eq, if_pos rfl]
        apply zPo_go
        simpa only [zlit, nI_add] using hL
      · have hl2 : ((List.range k).filter (fun a => zhang S a)).length < 275 := by
          have h5 := Nat.le_trans (zHL_pre (S := S) (k := k + 1) (by omega)) (zHL_len hW)
          rw [List.range_succ, List.filter_append, List.length_append] at h5
          simp [hz] at h5
          omega
        have hJ2 := zLr_yes hJ h0 hz (by omega)
        obtain ⟨M', hL, hJ'⟩ := ih (by omega) _ hJ2
        refine ⟨M', ?_, hJ'⟩
        have hpl := zpop_le k
        have hmany : (zw Mk 54 k 1).1 53 3 = nI ((List.range k).filter (fun a => zhang S a)).length := by rw [zw_at, if_neg (by omega)]; exact hJ.2.1
        have fin : zPo (zenv zbt d) tb_X2_learn cu_X2_learn (zck (zin (nI k) 1024 && true) (zck (zin (nI k) 1024) (if (zw Mk 54 (nI k).toNatClampNeg 1).1 54 (nI k).toNatClampNeg = 0 then some (.inr (14, [some (.ref 53), some (.ref b), some (.int (nI (2 ^ S 0))), some (.int (nI k + 1))], [], zw Mk 54 (nI k).toNatClampNeg 1)) else if 275 ≤ Mk.1 53 3 then some (.inr (14, [some (.ref 53), some (.ref b), some (.int (nI (2 ^ S 0))), some (.int (nI k + 1))], [], zw Mk 54 (nI k).toNatClampNeg 1)) else zck (zin (Mk.1 53 3) 275) (some (.inr (14, [some (.ref 53), some (.ref b), some (.int (nI (2 ^ S 0))), some (.int (nI k + 1))], [], zw (zw (zw Mk 54 (nI k).toNatClampNeg 1) 55 (Mk.1 53 3).toNatClampNeg (nI k)) 53 3 (Mk.1 53 3 + 1))))))) (none, M') := by
          rw [zck_t (by rw [zinN (by omega) (by decide)]; rfl), zck_t (zinN (by omega) (by decide)), zcN (by omega), zw_eq, if_neg zn10, hJ.2.1, if_neg (show ¬ ((275 : Int32) ≤ nI ((List.range k).filter (fun a => zhang S a)).length) from nI_ge hl2 (by decide)), zck_t (zinN hl2 (by decide)), zcN (by omega)]
          apply zPo_go
          simpa only [zlit, nI_add] using hL
        apply zL_of; rw [e_X2_learn_14 _ _ _ hb, if_neg (nI_ge hk (by omega)), if_neg (show ¬ ((1024 : Int32) ≤ nI k) from nI_ge (show k < 1024 by omega) (by decide)), s_bitCount (by omega) (by omega), Option.bind_some]
        dsimp only
        by_cases hq1 : zpop k = 1
        · rw [hq1, if_pos (show nI 1 = (1 : Int32) from rfl)]
          exact fin
        · rw [if_neg (show ¬ (nI (zpop k) = 1) from fun q => hq1 ((nI_eq (by omega) (by decide)).mp q)), s_hangsBy (by omega) hb hW hSk hk hJ.1, Option.bind_some]
          dsimp only
          rw [hz] at hrec
          have hr2 : zany (fun c => k.testBit c && ((znx (S 1) (S 0) c &&& k) != 0 && zhang S (k ^^^ 2 ^ c))) (S 0) = true := by
            have : (zpop k == 1) = false := by simpa using hq1
            rw [this, Bool.false_or] at hrec
            exact hrec.symm
          rw [zbi_t hr2, if_neg zn10]
          exact fin
  have hstart : zLr S M 1 (zw M 53 3 0) := by
    refine ⟨fun x h5 h6 => by omega, ?_, fun i x hi => ?_, zFr.rf.w (by decide)⟩
    · rw [zw_at, if_pos ⟨rfl, rfl⟩]; simp [List.range_succ, zhang]; rfl
    · simp [List.range_succ, zhang] at hi
  obtain ⟨M', hL, hJ⟩ := key 1 (by omega) (by omega) _ hstart
  refine ⟨M', ?_, hJ.2.2.2, ?_⟩
  · apply c_X2_learn
    apply zL_of; rw [e_X2_learn_0 _ _ _ hb, h1]
    simp only [zlit]
    rw [zshl1 (by omega)]
    exact zPo_go hL
  · exact ⟨fun a h5 h6 => hJ.1 a h5 h6, hJ.2.1, fun i x hi => hJ.2.2.1 i x hi⟩
end ZX11

/-! The start: the memory behind the constructors is alike; the classes, the arrays, the constants. -/
set_option maxHeartbeats 2000000 in
theorem zInv0 : zInv (fun _ => 0) zM0 := by
  have e0 : zHL (fun _ => 0) = [] := by decide +kernel
  refine ⟨?_, ?_, ?_, ?_, ?_, ?_, ?_, ?_, ?_⟩
  · refine ⟨by decide, by decide, Or.inl rfl, fun c h => absurd h (Nat.not_lt_zero _), by decide, fun c h => absurd h (Nat.not_lt_zero _), by decide, fun c _ => ⟨show (0 : Nat) < 2 ^ 0 from by decide, fun _ => rfl⟩, fun c e _ _ _ => show (0 &&& 0 : Nat) = 0 from by decide, fun c _ => show (0 &&& 0 : Nat) = 0 from by decide⟩
  · refine ⟨rfl, rfl, rfl, rfl, rfl, ?_, rfl, ?_, fun i h => absurd h (Nat.not_lt_zero _), fun i h => absurd h (Nat.not_lt_zero _)⟩
    · decide +kernel
    · decide +kernel
  · exact ⟨fun k _ => rfl, fun c h => absurd h (Nat.not_lt_zero _)⟩
  · refine ⟨fun a h1 h2 => ?_, ?_, fun i x h => ?_⟩
    · have h3 : a < 1 := h2
      omega
    · rw [e0]; rfl
    · rw [e0] at h; cases h
  · intro r hr
    refine Or.inl ?_
    rcases (show r = 0 ∨ r = 1 ∨ r = 2 ∨ r = 3 ∨ r = 4 ∨ r = 5 ∨ r = 6 ∨ r = 7 by omega) with rfl | rfl | rfl | rfl | rfl | rfl | rfl | rfl <;> exact ⟨rfl, rfl⟩
  · exact ⟨0, by decide, rfl, rfl, fun i h => absurd h (Nat.not_lt_zero _)⟩
  · exact ⟨rfl, rfl, ⟨0, by decide, rfl, rfl, fun i h => absurd h (Nat.not_lt_zero _)⟩, rfl, rfl, rfl, rfl, rfl⟩
  · exact ⟨0, 0, fun _ _ => 0, by decide, by decide, rfl, rfl, rfl, fun k _ => rfl, fun j h => absurd h (Nat.not_lt_zero _)⟩
  · exact ⟨Or.inl ⟨rfl, rfl⟩, Or.inl ⟨rfl, rfl⟩⟩
def zad (u1 u2 w : Nat → Nat) : Nat → Nat := fun k => if k < 66 then u1 k else if k < 83 then u2 (k - 66) else w k
def zpos : List Nat := [0, 1, 36, 38, 40, 42, 44, 46, 48, 50, 37, 39, 41, 43, 45, 47, 49, 51, 3, 4, 5, 6, 7, 8, 9, 10, 11, 12, 13, 14, 15, 16, 17, 18, 2, 52, 53, 54, 55, 56, 57, 58, 59, 60, 61, 62, 63, 64, 65, 19, 20, 21, 22, 23, 24, 25, 26, 27, 28, 29, 30, 31, 32, 33, 34, 35, 66, 67, 68, 69, 70, 71, 72, 73, 74, 75, 76, 77, 78, 79, 80, 81, 82]
/-- a constant array of the class -/
theorem zs1_of {args : Array Value} {s : State} {A : Nat → Prop} {C n : String} (xs : List Int32) (hN : xs.length < 2 ^ 31) (hl : (Cond.laysStatic C n "[I").before args s = true) (hini : (Cond.initialized C).before args s = true) (harr : (Cond.arrayOf (.static C n "[I") .int).before args s = true) (hlen : (Cond.eq (.length (.static C n "[I")) (.int (Int32.ofNat xs.length))).before args s = true) (hel : ∀ j, j < xs.length → (Cond.eq (.elem (.static C n "[I") (.int (Int32.ofNat j))) (.int (xs.getD j 0))).before args s = true) (hA : ∀ a : Nat, a < s.heap.size → ¬ A a) : ∃ t : Nat, va_Z C n "[I" (.ref t) A s s.heap ∧ va_T .int t xs.length (fun j => .int (xs.getD j 0)) A s s.heap := by
  obtain ⟨t, h1, h2⟩ := va_Tof (f := fun j => .int (xs.getD j 0)) hN harr (va_eqt hlen) (fun j hj => va_eqt (hel j hj)) hA
  exact ⟨t, va_Zof hl hini h1 hA, h2⟩
set_option maxHeartbeats 4000000 in
theorem zst_of {args : Array Value} {s : State} {A : Nat → Prop} (hts : ∀ w ∈ lw_tbl, w.before args s = true) (hgv : (Jvm.Cond.and given_1 narrow_1).before args s = true) (hA : ∀ a : Nat, a < s.heap.size → ¬ A a) : ∃ w : Nat → Nat, ∀ u1 u2 : Nat → Nat, zSt (zad u1 u2 w) A s s.heap := by
  have hs := flat_of_before _ hgv
  have e0 : ∀ j, j < zWITHOUT.length → (Cond.eq (.elem (.static "StampSheets$Finder" "WITHOUT" "[I") (.int (Int32.ofNat j))) (.int (zWITHOUT.getD j 0))).before args s = true := by
    intro j hj
    rcases (show j = 0 ∨ j = 1 ∨ j = 2 ∨ j = 3 ∨ j = 4 from by have h : j < 5 := hj; omega) with rfl | rfl | rfl | rfl | rfl <;> exact hs _ (by decide +kernel)
  obtain ⟨t0, z0, y0⟩ := zs1_of (C := "StampSheets$Finder") (n := "WITHOUT") zWITHOUT (by decide) (hts _ (List.mem_of_getElem? (i := 834) (by decide +kernel))) (hts _ (List.mem_of_getElem? (i := 135) (by decide +kernel))) (hs _ (by decide +kernel)) (hs _ (by decide +kernel)) e0 hA
  have e1 : ∀ j, j < zABOVE.length → (Cond.eq (.elem (.static "StampSheets$Asks" "ABOVE" "[I") (.int (Int32.ofNat j))) (.int (zABOVE.getD j 0))).before args s = true := by
    intro j hj
    rcases (show j = 0 ∨ j = 1 ∨ j = 2 ∨ j = 3 ∨ j = 4 ∨ j = 5 from by have h : j < 6 := hj; omega) with rfl | rfl | rfl | rfl | rfl | rfl <;> exact hs _ (by decide +kernel)
  obtain ⟨t1, z1, y1⟩ := zs1_of (C := "StampSheets$Asks") (n := "ABOVE") zABOVE (by decide) (hts _ (List.mem_of_getElem? (i := 1000) (by decide +kernel))) (hts _ (List.mem_of_getElem? (i := 136) (by decide +kernel))) (hs _ (by decide +kernel)) (hs _ (by decide +kernel)) e1 hA
  have e2 : ∀ j, j < zSIZEB.length → (Cond.eq (.elem (.static "StampSheets$Asks" "SIZE_BODIES" "[I") (.int (Int32.ofNat j))) (.int (zSIZEB.getD j 0))).before args s = true := by
    intro j hj
    rcases (show j = 0 ∨ j = 1 ∨ j = 2 ∨ j = 3 ∨ j = 4 ∨ j = 5 from by have h : j < 6 := hj; omega) with rfl | rfl | rfl | rfl | rfl | rfl <;> exact hs _ (by decide +kernel)
  obtain ⟨t2, z2, y2⟩ := zs1_of (C := "StampSheets$Asks") (n := "SIZE_BODIES") zSIZEB (by decide) (hts _ (List.mem_of_getElem? (i := 1017) (by decide +kernel))) (hts _ (List.mem_of_getElem? (i := 136) (by decide +kernel))) (hs _ (by decide +kernel)) (hs _ (by decide +kernel)) e2 hA
  have e3 : ∀ j, j < zMARKB.length → (Cond.eq (.elem (.static "StampSheets$Asks" "MARK_BODIES" "[I") (.int (Int32.ofNat j))) (.int (zMARKB.getD j 0))).before args s = true := by
    intro j hj
    rcases (show j = 0 ∨ j = 1 ∨ j = 2 ∨ j = 3 ∨ j = 4 ∨ j = 5 from by have h : j < 6 := hj; omega) with rfl | rfl | rfl | rfl | rfl | rfl <;> exact hs _ (by decide +kernel)
  obtain ⟨t3, z3, y3⟩ := zs1_of (C := "StampSheets$Asks") (n := "MARK_BODIES") zMARKB (by decide) (hts _ (List.mem_of_getElem? (i := 1019) (by decide +kernel))) (hts _ (List.mem_of_getElem? (i := 136) (by decide +kernel))) (hs _ (by decide +kernel)) (hs _ (by decide +kernel)) e3 hA
  refine ⟨fun k => if k = 1001 then t0 else if k = 1002 then t1 else if k = 1003 then t2 else t3, fun u1 u2 => ?_⟩
  exact ⟨⟨z0, y0⟩, ⟨z1, y1⟩, ⟨z2, y2⟩, ⟨z3, y3⟩⟩
theorem zw_in7 : Cond.instantiable RX7 10 ∈ zTB := zTB_mem 145 (by decide +kernel) rfl
theorem zw_iz7 : Cond.initialized RX7 ∈ zTB := zTB_mem 131 (by decide +kernel) rfl
theorem zw_in8 : Cond.instantiable RX8 23 ∈ zTB := zTB_mem 1045 (by decide +kernel) rfl
theorem zw_iz8 : Cond.initialized RX8 ∈ zTB := zTB_mem 139 (by decide +kernel) rfl
theorem zK_of {args : Array Value} {s : State} (hts : ∀ w ∈ zTB, w.before args s = true) (ho4 : va_AO "StampSheets$Row" s) (ho5 : va_AO "StampSheets$Sheet" s) : ∃ (D : va_G) (dA : Nat → ClassId), va_K D vwCl (zTys dA) s := by
  obtain ⟨c0, i0, k0⟩ := u_known (C := RX0) (T := TX0) (N := 5) (n := 5) hts zinX0 (hts _ zw_in0)
  obtain ⟨c1, i1, k1⟩ := u_known (C := RX1) (T := TX1) (N := 6) (n := 6) hts zinX1 (hts _ zw_in1)
  obtain ⟨c2, i2, k2⟩ := u_known (C := RX2) (T := TX2) (N := 8) (n := 8) hts zinX2 (hts _ zw_in2)
  obtain ⟨c3, i3, k3⟩ := u_known (C := RX3) (T := TX3) (N := 7) (n := 7) hts zinX3 (hts _ zw_in3)
  obtain ⟨c4, i4, k4⟩ := u_known (C := RX4) (T := TX4) (N := 4) (n := 4) hts zinX4 (hts _ zw_in4)
  obtain ⟨c5, i5, k5⟩ := u_known (C := RX5) (T := TX5) (N := 14) (n := 14) hts zinX5 (hts _ zw_in5)
  obtain ⟨c6, i6, k6⟩ := u_known (C := RX6) (T := TX6) (N := 3) (n := 3) hts zinX6 (hts _ zw_in6)
  obtain ⟨c7, i7, k7⟩ := u_known (C := RX7) (T := TX7) (N := 10) (n := 10) hts zinX7 (hts _ zw_in7)
  obtain ⟨c8, i8, k8⟩ := u_known (C := RX8) (T := TX8) (N := 23) (n := 23) hts zinX8 (hts _ zw_in8)
  obtain ⟨a0, ka0, co0, f0, g0, h0⟩ := Cond.arrayClass_spec (hts _ zw_ar0)
  obtain ⟨a1, ka1, co1, f1, g1, h1⟩ := Cond.arrayClass_spec (hts _ zw_ar1)
  obtain ⟨a2, ka2, co2, f2, g2, h2⟩ := Cond.arrayClass_spec (hts _ zw_ar2)
  obtain ⟨co3, a3, ka3, f3, x3, g3, h3, n3⟩ := Cond.arrayOver_spec ho4
  obtain ⟨co4, a4, ka4, f4, x4, g4, h4, n4⟩ := Cond.arrayOver_spec ho5
  refine ⟨(fun k => if k = 0 then c0 else if k = 1 then c1 else if k = 2 then c2 else if k = 3 then c3 else if k = 4 then c4 else if k = 5 then c5 else if k = 6 then c6 else if k = 7 then c7 else c8, fun k => if k = 0 then i0 else if k = 1 then i1 else if k = 2 then i2 else if k = 3 then i3 else if k = 4 then i4 else if k = 5 then i5 else if k = 6 then i6 else if k = 7 then i7 else i8), fun k => if k = 0 then a0 else if k = 1 then a1 else if k = 2 then a2 else if k = 3 then a3 else a4, fun k q hq => ?_, fun k q hq => ?_⟩
  · match k, hq with
    | 0, hq => cases hq; exact k0
    | 1, hq => cases hq; exact k1
    | 2, hq => cases hq; exact k2
    | 3, hq => cases hq; exact k3
    | 4, hq => cases hq; exact k4
    | 5, hq => cases hq; exact k5
    | 6, hq => cases hq; exact k6
    | 7, hq => cases hq; exact k7
    | 8, hq => cases hq; exact k8
    | k + 9, hq => simp [vwCl] at hq
  · match k, hq with
    | 0, hq => cases hq; exact ⟨fun n z => ⟨fun k h => (by cases h), ka0, g0, co0, h0⟩, f0⟩
    | 1, hq => cases hq; exact ⟨fun n z => ⟨fun k h => (by cases h), ka1, g1, co1, h1⟩, f1⟩
    | 2, hq => cases hq; exact ⟨fun n z => ⟨fun k h => (by cases h), ka2, g2, co2, h2⟩, f2⟩
    | 3, hq => cases hq; exact ⟨fun n z => ⟨fun k h => (by cases h), ka3, g3, co3, h3⟩, ka3, co3, g3, h3, f3, n3⟩
    | 4, hq => cases hq; exact ⟨fun n z => ⟨fun k h => (by cases h), ka4, g4, co4, h4⟩, ka4, co4, g4, h4, f4, n4⟩
    | k + 5, hq => simp [zTys] at hq

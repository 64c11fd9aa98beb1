/-! The cells behind the constructors, in their order. -/
section ZST
variable {dA : Nat → ClassId} {u1 u2 w : Nat → Nat}
theorem zX78 : zwX7 dA u1 ++ zwX8 dA u2 = [(u1 0, .inr (7, [.ref (u1 1), .ref (u1 18), .ref (u1 20), .ref (u1 27), .ref (u1 34), .ref (u1 49), .ref (u1 53), .ref (u1 61), .ref (u1 63), .int 0])), (u1 1, .inl (dA 3, 8, .inr (.inr (.inr (.inr (fun j => ([u1 2, u1 3, u1 4, u1 5, u1 6, u1 7, u1 8, u1 9] : List Nat)[j]?)))))), (u1 34, .inl (dA 4, 2, .inr (.inr (.inr (.inr (fun j => ([u1 35, u1 42] : List Nat)[j]?)))))), (u1 18, .inr (3, [.ref (u1 19), .int 0, .int 0, .int 0, .int (-1), .int 0, .int 0])), (u1 19, .inl (dA 0, 120, .inl (fun _ => 0))), (u1 20, .inr (5, [.int 0, .int 0, .int 0, .int 0, .int 0, .int 0, .int 0, .int 0, .ref (u1 21), .ref (u1 22), .ref (u1 23), .ref (u1 24), .ref (u1 25), .ref (u1 26)])), (u1 21, .inl (dA 0, 10, .inl (fun _ => 0))), (u1 22, .inl (dA 0, 10, .inl (fun _ => 0))), (u1 23, .inl (dA 0, 10, .inl (fun _ => 0))), (u1 24, .inl (dA 0, 5, .inl (fun _ => 0))), (u1 25, .inl (dA 0, 5, .inl (fun _ => 0))), (u1 26, .inl (dA 0, 5, .inl (fun _ => 0))), (u1 27, .inr (5, [.int 0, .int 0, .int 0, .int 0, .int 0, .int 0, .int 0, .int 0, .ref (u1 28), .ref (u1 29), .ref (u1 30), .ref (u1 31), .ref (u1 32), .ref (u1 33)])), (u1 28, .inl (dA 0, 10, .inl (fun _ => 0))), (u1 29, .inl (dA 0, 10, .inl (fun _ => 0))), (u1 30, .inl (dA 0, 10, .inl (fun _ => 0))), (u1 31, .inl (dA 0, 5, .inl (fun _ => 0))), (u1 32, .inl (dA 0, 5, .inl (fun _ => 0))), (u1 33, .inl (dA 0, 5, .inl (fun _ => 0))), (u1 49, .inr (0, [.ref (u1 50), .ref (u1 51), .ref (u1 52), .int 0, .int 0])), (u1 50, .inl (dA 0, 24, .inl (fun _ => 0))), (u1 51, .inl (dA 0, 24, .inl (fun _ => 0))), (u1 52, .inl (dA 0, 24, .inl (fun _ => 0))), (u1 53, .inr (2, [.ref (u1 54), .ref (u1 55), .ref (u1 56), .int 0, .ref (u1 57), .ref (u1 58), .ref (u1 59), .ref (u1 60)])), (u1 54, .inl (dA 2, 1024, .inl (fun _ => 0))), (u1 55, .inl (dA 0, 275, .inl (fun _ => 0))), (u1 56, .inl (dA 0, 275, .inl (fun _ => 0))), (u1 57, .inl (dA 0, 1024, .inl (fun _ => 0))), (u1 58, .inl (dA 0, 1024, .inl (fun _ => 0))), (u1 59, .inl (dA 0, 100, .inl (fun _ => 0))), (u1 60, .inl (dA 1, 11, .inr (.inl (fun _ => 0)))), (u1 61, .inr (1, [.ref (u1 62), .int 0, .int 0, .int 0, .int 0, .int 0])), (u1 62, .inl (dA 0, 16, .inl (fun _ => 0))), (u1 63, .inr (6, [.ref (u1 64), .ref (u1 65), .int 0])), (u1 64, .inl (dA 0, 10, .inl (fun _ => 0))), (u1 65, .inl (dA 0, 10, .inl (fun _ => 0))), (u1 2, .inr (4, [.ref (u1 10), .int 0, .int 0, .int 0])), (u1 10, .inl (dA 0, 40, .inl (fun _ => 0))), (u1 3, .inr (4, [.ref (u1 11), .int 0, .int 0, .int 0])), (u1 11, .inl (dA 0, 40, .inl (fun _ => 0))), (u1 4, .inr (4, [.ref (u1 12), .int 0, .int 0, .int 0])), (u1 12, .inl (dA 0, 40, .inl (fun _ => 0))), (u1 5, .inr (4, [.ref (u1 13), .int 0, .int 0, .int 0])), (u1 13, .inl (dA 0, 40, .inl (fun _ => 0))), (u1 6, .inr (4, [.ref (u1 14), .int 0, .int 0, .int 0])), (u1 14, .inl (dA 0, 40, .inl (fun _ => 0))), (u1 7, .inr (4, [.ref (u1 15), .int 0, .int 0, .int 0])), (u1 15, .inl (dA 0, 40, .inl (fun _ => 0))), (u1 8, .inr (4, [.ref (u1 16), .int 0, .int 0, .int 0])), (u1 16, .inl (dA 0, 40, .inl (fun _ => 0))), (u1 9, .inr (4, [.ref (u1 17), .int 0, .int 0, .int 0])), (u1 17, .inl (dA 0, 40, .inl (fun _ => 0))), (u1 35, .inr (5, [.int 0, .int 0, .int 0, .int 0, .int 0, .int 0, .int 0, .int 0, .ref (u1 36), .ref (u1 37), .ref (u1 38), .ref (u1 39), .ref (u1 40), .ref (u1 41)])), (u1 36, .inl (dA 0, 10, .inl (fun _ => 0))), (u1 37, .inl (dA 0, 10, .inl (fun _ => 0))), (u1 38, .inl (dA 0, 10, .inl (fun _ => 0))), (u1 39, .inl (dA 0, 5, .inl (fun _ => 0))), (u1 40, .inl (dA 0, 5, .inl (fun _ => 0))), (u1 41, .inl (dA 0, 5, .inl (fun _ => 0))), (u1 42, .inr (5, [.int 0, .int 0, .int 0, .int 0, .int 0, .int 0, .int 0, .int 0, .ref (u1 43), .ref (u1 44), .ref (u1 45), .ref (u1 46), .ref (u1 47), .ref (u1 48)])), (u1 43, .inl (dA 0, 10, .inl (fun _ => 0))), (u1 44, .inl (dA 0, 10, .inl (fun _ => 0))), (u1 45, .inl (dA 0, 10, .inl (fun _ => 0))), (u1 46, .inl (dA 0, 5, .inl (fun _ => 0))), (u1 47, .inl (dA 0, 5, .inl (fun _ => 0))), (u1 48, .inl (dA 0, 5, .inl (fun _ => 0))), (u2 0, .inr (8, [.ref (u2 1), .ref (u2 2), .ref (u2 3), .ref (u2 4), .int 0, .ref (u2 5), .int 0, .int 0, .int 0, .int 0, .ref (u2 6), .ref (u2 7), .ref (u2 8), .ref (u2 9), .int 0, .ref (u2 10), .ref (u2 11), .ref (u2 12), .ref (u2 13), .int 0, .ref (u2 14), .ref (u2 15), .ref (u2 16)])), ((u2 1), .inl (dA 0, 8, .inl (fun _ => 0))), ((u2 2), .inl (dA 0, 8, .inl zneg8)), ((u2 3), .inl (dA 0, 320, .inl (fun _ => 0))), ((u2 4), .inl (dA 0, 40, .inl (fun _ => 0))), ((u2 5), .inl (dA 0, 120, .inl (fun _ => 0))), ((u2 6), .inl (dA 0, 41, .inl (fun _ => 0))), ((u2 7), .inl (dA 0, 41, .inl (fun _ => 0))), ((u2 8), .inl (dA 0, 10, .inl (fun _ => 0))), ((u2 9), .inl (dA 0, 432, .inl (fun _ => 0))), ((u2 10), .inl (dA 0, 82, .inl (fun _ => 0))), ((u2 11), .inl (dA 2, 2, .inl (fun _ => 0))), ((u2 12), .inl (dA 1, 1024, .inr (.inl (fun _ => 0)))), ((u2 13), .inl (dA 0, 16, .inl (fun _ => 0))), ((u2 14), .inl (dA 1, 5, .inr (.inl zwo5))), ((u2 15), .inl (dA 1, 11, .inr (.inl (fun _ => 0)))), ((u2 16), .inl (dA 0, 18, .inl (fun _ => 0)))] := by
  simp only [zwX7, zwX8, zwX0, zwX1, zwX2, zwX3, zwX4, zwX5, zwX6, List.nil_append, List.cons_append, List.append_assoc, Nat.reduceAdd, Nat.reduceMul]
set_option maxHeartbeats 4000000 in
theorem zFall0 : ∀ (k : Nat) (y : ZY), 0 ≤ k → k < 20 → zLay[k]? = some y → (zwX7 dA u1 ++ zwX8 dA u2)[zpos.getD k 0]? = some (zad u1 u2 w k, zcell dA (zad u1 u2 w) zM0 k y) := by
  intro k y ha hb hy
  rw [zX78]
  rcases (show k = 0 ∨ k = 1 ∨ k = 2 ∨ k = 3 ∨ k = 4 ∨ k = 5 ∨ k = 6 ∨ k = 7 ∨ k = 8 ∨ k = 9 ∨ k = 10 ∨ k = 11 ∨ k = 12 ∨ k = 13 ∨ k = 14 ∨ k = 15 ∨ k = 16 ∨ k = 17 ∨ k = 18 ∨ k = 19 by omega) with rfl | rfl | rfl | rfl | rfl | rfl | rfl | rfl | rfl | rfl | rfl | rfl | rfl | rfl | rfl | rfl | rfl | rfl | rfl | rfl
  · obtain rfl : (.inr (.inr (7, [some 1, some 18, some 20, some 27, some 34, some 49, some 53, some 61, some 63, none])) : ZY) = y := Option.some.inj hy
    simp only [zcell, List.mapIdx_cons, List.mapIdx_nil, zfld]
    rfl
  · obtain rfl : (.inr (.inl (3, [2, 3, 4, 5, 6, 7, 8, 9])) : ZY) = y := Option.some.inj hy
    have e : (fun j : Nat => (([2, 3, 4, 5, 6, 7, 8, 9] : List Nat)[j]?).map (zad u1 u2 w)) = fun j : Nat => ([u1 2, u1 3, u1 4, u1 5, u1 6, u1 7, u1 8, u1 9] : List Nat)[j]? := by
      funext j
      rcases j with _ | _ | _ | _ | _ | _ | _ | _ | j <;> rfl
    show some (u1 1, Sum.inl (dA 3, 8, Sum.inr (Sum.inr (Sum.inr (Sum.inr (fun j : Nat => ([u1 2, u1 3, u1 4, u1 5, u1 6, u1 7, u1 8, u1 9] : List Nat)[j]?)))))) = some (u1 1, Sum.inl (dA 3, 8, Sum.inr (Sum.inr (Sum.inr (Sum.inr (fun j : Nat => (([2, 3, 4, 5, 6, 7, 8, 9] : List Nat)[j]?).map (zad u1 u2 w)))))))
    rw [e]
  · obtain rfl : (.inr (.inr (4, [some 10, none, none, none])) : ZY) = y := Option.some.inj hy
    simp only [zcell, List.mapIdx_cons, List.mapIdx_nil, zfld]
    rfl
  · obtain rfl : (.inr (.inr (4, [some 11, none, none, none])) : ZY) = y := Option.some.inj hy
    simp only [zcell, List.mapIdx_cons, List.mapIdx_nil, zfld]
    rfl
  · obtain rfl : (.inr (.inr (4, [some 12, none, none, none])) : ZY) = y := Option.some.inj hy
    simp only [zcell, List.mapIdx_cons, List.mapIdx_nil, zfld]
    rfl
  · obtain rfl : (.inr (.inr (4, [some 13, none, none, none])) : ZY) = y := Option.some.inj hy
    simp only [zcell, List.mapIdx_cons, List.mapIdx_nil, zfld]
    rfl
  · obtain rfl : (.inr (.inr (4, [some 14, none, none, none])) : ZY) = y := Option.some.inj hy
    simp only [zcell, List.mapIdx_cons, List.mapIdx_nil, zfld]
    rfl
  · obtain rfl : (.inr (.inr (4, [some 15, none, none, none])) : ZY) = y := Option.some.inj hy
    simp only [zcell, List.mapIdx_cons, List.mapIdx_nil, zfld]
    rfl
  · obtain rfl : (.inr (.inr (4, [some 16, none, none, none])) : ZY) = y := Option.some.inj hy
    simp only [zcell, List.mapIdx_cons, List.mapIdx_nil, zfld]
    rfl
  · obtain rfl : (.inr (.inr (4, [some 17, none, none, none])) : ZY) = y := Option.some.inj hy
    simp only [zcell, List.mapIdx_cons, List.mapIdx_nil, zfld]
    rfl
  · obtain rfl : (.inl (0, 40) : ZY) = y := Option.some.inj hy
    rfl
  · obtain rfl : (.inl (0, 40) : ZY) = y := Option.some.inj hy
    rfl
  · obtain rfl : (.inl (0, 40) : ZY) = y := Option.some.inj hy
    rfl
  · obtain rfl : (.inl (0, 40) : ZY) = y := Option.some.inj hy
    rfl
  · obtain rfl : (.inl (0, 40) : ZY) = y := Option.some.inj hy
    rfl
  · obtain rfl : (.inl (0, 40) : ZY) = y := Option.some.inj hy
    rfl
  · obtain rfl : (.inl (0, 40) : ZY) = y := Option.some.inj hy
    rfl
  · obtain rfl : (.inl (0, 40) : ZY) = y := Option.some.inj hy
    rfl
  · obtain rfl : (.inr (.inr (3, [some 19, none, none, none, none, none, none])) : ZY) = y := Option.some.inj hy
    simp only [zcell, List.mapIdx_cons, List.mapIdx_nil, zfld]
    rfl
  · obtain rfl : (.inl (0, 120) : ZY) = y := Option.some.inj hy
    rfl
set_option maxHeartbeats 4000000 in
theorem zFall1 : ∀ (k : Nat) (y : ZY), 20 ≤ k → k < 42 → zLay[k]? = some y → (zwX7 dA u1 ++ zwX8 dA u2)[zpos.getD k 0]? = some (zad u1 u2 w k, zcell dA (zad u1 u2 w) zM0 k y) := by
  intro k y ha hb hy
  rw [zX78]
  rcases (show k = 20 ∨ k = 21 ∨ k = 22 ∨ k = 23 ∨ k = 24 ∨ k = 25 ∨ k = 26 ∨ k = 27 ∨ k = 28 ∨ k = 29 ∨ k = 30 ∨ k = 31 ∨ k = 32 ∨ k = 33 ∨ k = 34 ∨ k = 35 ∨ k = 36 ∨ k = 37 ∨ k = 38 ∨ k = 39 ∨ k = 40 ∨ k = 41 by omega) with rfl | rfl | rfl | rfl | rfl | rfl | rfl | rfl | rfl | rfl | rfl | rfl | rfl | rfl | rfl | rfl | rfl | rfl | rfl | rfl | rfl | rfl
  · obtain rfl : (.inr (.inr (5, [none, none, none, none, none, none, none, none, some 21, some 22, some 23, some 24, some 25, some 26])) : ZY) = y := Option.some.inj hy
    simp only [zcell, List.mapIdx_cons, List.mapIdx_nil, zfld]
    rfl
  · obtain rfl : (.inl (0, 10) : ZY) = y := Option.some.inj hy
    rfl
  · obtain rfl : (.inl (0, 10) : ZY) = y := Option.some.inj hy
    rfl
  · obtain rfl : (.inl (0, 10) : ZY) = y := Option.some.inj hy
    rfl
  · obtain rfl : (.inl (0, 5) : ZY) = y := Option.some.inj hy
    rfl
  · obtain rfl : (.inl (0, 5) : ZY) = y := Option.some.inj hy
    rfl
  · obtain rfl : (.inl (0, 5) : ZY) = y := Option.some.inj hy
    rfl
  · obtain rfl : (.inr (.inr (5, [none, none, none, none, none, none, none, none, some 28, some 29, some 30, some 31, some 32, some 33])) : ZY) = y := Option.some.inj hy
    simp only [zcell, List.mapIdx_cons, List.mapIdx_nil, zfld]
    rfl
  · obtain rfl : (.inl (0, 10) : ZY) = y := Option.some.inj hy
    rfl
  · obtain rfl : (.inl (0, 10) : ZY) = y := Option.some.inj hy
    rfl
  · obtain rfl : (.inl (0, 10) : ZY) = y := Option.some.inj hy
    rfl
  · obtain rfl : (.inl (0, 5) : ZY) = y := Option.some.inj hy
    rfl
  · obtain rfl : (.inl (0, 5) : ZY) = y := Option.some.inj hy
    rfl
  · obtain rfl : (.inl (0, 5) : ZY) = y := Option.some.inj hy
    rfl
  · obtain rfl : (.inr (.inl (4, [35, 42])) : ZY) = y := Option.some.inj hy
    have e : (fun j : Nat => (([35, 42] : List Nat)[j]?).map (zad u1 u2 w)) = fun j : Nat => ([u1 35, u1 42] : List Nat)[j]? := by
      funext j
      rcases j with _ | _ | j <;> rfl
    show some (u1 34, Sum.inl (dA 4, 2, Sum.inr (Sum.inr (Sum.inr (Sum.inr (fun j : Nat => ([u1 35, u1 42] : List Nat)[j]?)))))) = some (u1 34, Sum.inl (dA 4, 2, Sum.inr (Sum.inr (Sum.inr (Sum.inr (fun j : Nat => (([35, 42] : List Nat)[j]?).map (zad u1 u2 w)))))))
    rw [e]
  · obtain rfl : (.inr (.inr (5, [none, none, none, none, none, none, none, none, some 36, some 37, some 38, some 39, some 40, some 41])) : ZY) = y := Option.some.inj hy
    simp only [zcell, List.mapIdx_cons, List.mapIdx_nil, zfld]
    rfl
  · obtain rfl : (.inl (0, 10) : ZY) = y := Option.some.inj hy
    rfl
  · obtain rfl : (.inl (0, 10) : ZY) = y := Option.some.inj hy
    rfl
  · obtain rfl : (.inl (0, 10) : ZY) = y := Option.some.inj hy
    rfl
  · obtain rfl : (.inl (0, 5) : ZY) = y := Option.some.inj hy
    rfl
  · obtain rfl : (.inl (0, 5) : ZY) = y := Option.some.inj hy
    rfl
  · obtain rfl : (.inl (0, 5) : ZY) = y := Option.some.inj hy
    rfl
set_option maxHeartbeats 4000000 in
theorem zFall2 : ∀ (k : Nat) (y : ZY), 42 ≤ k → k < 66 → zLay[k]? = some y → (zwX7 dA u1 ++ zwX8 dA u2)[zpos.getD k 0]? = some (zad u1 u2 w k, zcell dA (zad u1 u2 w) zM0 k y) := by
  intro k y ha hb hy
  rw [zX78]
  rcases (show k = 42 ∨ k = 43 ∨ k = 44 ∨ k = 45 ∨ k = 46 ∨ k = 47 ∨ k = 48 ∨ k = 49 ∨ k = 50 ∨ k = 51 ∨ k = 52 ∨ k = 53 ∨ k = 54 ∨ k = 55 ∨ k = 56 ∨ k = 57 ∨ k = 58 ∨ k = 59 ∨ k = 60 ∨ k = 61 ∨ k = 62 ∨ k = 63 ∨ k = 64 ∨ k = 65 by omega) with rfl | rfl | rfl | rfl | rfl | rfl | rfl | rfl | rfl | rfl | rfl | rfl | rfl | rfl | rfl | rfl | rfl | rfl | rfl | rfl | rfl | rfl | rfl | rfl
  · obtain rfl : (.inr (.inr (5, [none, none, none, none, none, none, none, none, some 43, some 44, some 45, some 46, some 47, some 48])) : ZY) = y := Option.some.inj hy
    simp only [zcell, List.mapIdx_cons, List.mapIdx_nil, zfld]
    rfl
  · obtain rfl : (.inl (0, 10) : ZY) = y := Option.some.inj hy
    rfl
  · obtain rfl : (.inl (0, 10) : ZY) = y := Option.some.inj hy
    rfl
  · obtain rfl : (.inl (0, 10) : ZY) = y := Option.some.inj hy
    rfl
  · obtain rfl : (.inl (0, 5) : ZY) = y := Option.some.inj hy
    rfl
  · obtain rfl : (.inl (0, 5) : ZY) = y := Option.some.inj hy
    rfl
  · obtain rfl : (.inl (0, 5) : ZY) = y := Option.some.inj hy
    rfl
  · obtain rfl : (.inr (.inr (0, [some 50, some 51, some 52, none, none])) : ZY) = y := Option.some.inj hy
    simp only [zcell, List.mapIdx_cons, List.mapIdx_nil, zfld]
    rfl
  · obtain rfl : (.inl (0, 24) : ZY) = y := Option.some.inj hy
    rfl
  · obtain rfl : (.inl (0, 24) : ZY) = y := Option.some.inj hy
    rfl
  · obtain rfl : (.inl (0, 24) : ZY) = y := Option.some.inj hy
    rfl
  · obtain rfl : (.inr (.inr (2, [some 54, some 55, some 56, none, some 57, some 58, some 59, some 60])) : ZY) = y := Option.some.inj hy
    simp only [zcell, List.mapIdx_cons, List.mapIdx_nil, zfld]
    rfl
  · obtain rfl : (.inl (2, 1024) : ZY) = y := Option.some.inj hy
    rfl
  · obtain rfl : (.inl (0, 275) : ZY) = y := Option.some.inj hy
    rfl
  · obtain rfl : (.inl (0, 275) : ZY) = y := Option.some.inj hy
    rfl
  · obtain rfl : (.inl (0, 1024) : ZY) = y := Option.some.inj hy
    rfl
  · obtain rfl : (.inl (0, 1024) : ZY) = y := Option.some.inj hy
    rfl
  · obtain rfl : (.inl (0, 100) : ZY) = y := Option.some.inj hy
    rfl
  · obtain rfl : (.inl (1, 11) : ZY) = y := Option.some.inj hy
    rfl
  · obtain rfl : (.inr (.inr (1, [some 62, none, none, none, none, none])) : ZY) = y := Option.some.inj hy
    simp only [zcell, List.mapIdx_cons, List.mapIdx_nil, zfld]
    rfl
  · obtain rfl : (.inl (0, 16) : ZY) = y := Option.some.inj hy
    rfl
  · obtain rfl : (.inr (.inr (6, [some 64, some 65, none])) : ZY) = y := Option.some.inj hy
    simp only [zcell, List.mapIdx_cons, List.mapIdx_nil, zfld]
    rfl
  · obtain rfl : (.inl (0, 10) : ZY) = y := Option.some.inj hy
    rfl
  · obtain rfl : (.inl (0, 10) : ZY) = y := Option.some.inj hy
    rfl
set_option maxHeartbeats 4000000 in
theorem zFall3 : ∀ (k : Nat) (y : ZY), 66 ≤ k → k < 83 → zLay[k]? = some y → (zwX7 dA u1 ++ zwX8 dA u2)[zpos.getD k 0]? = some (zad u1 u2 w k, zcell dA (zad u1 u2 w) zM0 k y) := by
  intro k y ha hb hy
  rw [zX78]
  rcases (show k = 66 ∨ k = 67 ∨ k = 68 ∨ k = 69 ∨ k = 70 ∨ k = 71 ∨ k = 72 ∨ k = 73 ∨ k = 74 ∨ k = 75 ∨ k = 76 ∨ k = 77 ∨ k = 78 ∨ k = 79 ∨ k = 80 ∨ k = 81 ∨ k = 82 by omega) with rfl | rfl | rfl | rfl | rfl | rfl | rfl | rfl | rfl | rfl | rfl | rfl | rfl | rfl | rfl | rfl | rfl
  · obtain rfl : (.inr (.inr (8, [some 67, some 68, some 69, some 70, none, some 71, none, none, none, none, some 72, some 73, some 74, some 75, none, some 76, some 77, some 78, some 79, none, some 80, some 81, some 82])) : ZY) = y := Option.some.inj hy
    simp only [zcell, List.mapIdx_cons, List.mapIdx_nil, zfld]
    rfl
  · obtain rfl : (.inl (0, 8) : ZY) = y := Option.some.inj hy
    rfl
  · obtain rfl : (.inl (0, 8) : ZY) = y := Option.some.inj hy
    rfl
  · obtain rfl : (.inl (0, 320) : ZY) = y := Option.some.inj hy
    rfl
  · obtain rfl : (.inl (0, 40) : ZY) = y := Option.some.inj hy
    rfl
  · obtain rfl : (.inl (0, 120) : ZY) = y := Option.some.inj hy
    rfl
  · obtain rfl : (.inl (0, 41) : ZY) = y := Option.some.inj hy
    rfl
  · obtain rfl : (.inl (0, 41) : ZY) = y := Option.some.inj hy
    rfl
  · obtain rfl : (.inl (0, 10) : ZY) = y := Option.some.inj hy
    rfl
  · obtain rfl : (.inl (0, 432) : ZY) = y := Option.some.inj hy
    rfl
  · obtain rfl : (.inl (0, 82) : ZY) = y := Option.some.inj hy
    rfl
  · obtain rfl : (.inl (2, 2) : ZY) = y := Option.some.inj hy
    rfl
  · obtain rfl : (.inl (1, 1024) : ZY) = y := Option.some.inj hy
    rfl
  · obtain rfl : (.inl (0, 16) : ZY) = y := Option.some.inj hy
    rfl
  · obtain rfl : (.inl (1, 5) : ZY) = y := Option.some.inj hy
    rfl
  · obtain rfl : (.inl (1, 11) : ZY) = y := Option.some.inj hy
    rfl
  · obtain rfl : (.inl (0, 18) : ZY) = y := Option.some.inj hy
    rfl
theorem zFall (k : Nat) (y : ZY) (hy : zLay[k]? = some y) : (zwX7 dA u1 ++ zwX8 dA u2)[zpos.getD k 0]? = some (zad u1 u2 w k, zcell dA (zad u1 u2 w) zM0 k y) := by
  have hk : k < 83 := (List.getElem?_eq_some_iff.mp hy).1
  rcases (show k < 20 ∨ (20 ≤ k ∧ k < 42) ∨ (42 ≤ k ∧ k < 66) ∨ 66 ≤ k by omega) with h | h | h | h
  · exact zFall0 k y (Nat.zero_le _) h hy
  · exact zFall1 k y h.1 h.2 hy
  · exact zFall2 k y h.1 h.2 hy
  · exact zFall3 k y h hk hy
theorem zstart_P {D : va_G} {H : Heap} (hP : va_P D vwCl (zwX7 dA u1 ++ zwX8 dA u2) H) : va_P D vwCl (zwd dA (zad u1 u2 w) zM0) H := by
  intro k q hk
  cases hy : zLay[k]? with
  | none => simp [zwd, List.getElem?_mapIdx, hy] at hk
  | some y =>
    rw [zwd_at hy] at hk
    cases hk
    exact hP _ _ (zFall k y hy)
theorem zpos_inj : ∀ i, i < 83 → ∀ j, j < 83 → zpos.getD i 0 = zpos.getD j 0 → i = j := by decide +kernel
theorem zstart_D {A : Nat → Prop} (hD : va_D A (zwX7 dA u1 ++ zwX8 dA u2)) : zAd (zad u1 u2 w) A := by
  have g : ∀ i, i < 83 → ∃ y, zLay[i]? = some y := fun i hi => ⟨_, List.getElem?_eq_getElem hi⟩
  refine ⟨fun i j hi hj e => ?_, fun i hi => ?_⟩
  · obtain ⟨y, hy⟩ := g i hi
    obtain ⟨z, hz⟩ := g j hj
    exact zpos_inj i hi j hj (hD.1 _ _ _ _ (zFall (w := w) i y hy) (zFall (w := w) j z hz) e)
  · obtain ⟨y, hy⟩ := g i hi
    exact hD.2 _ _ (zFall (w := w) i y hy)
end ZST

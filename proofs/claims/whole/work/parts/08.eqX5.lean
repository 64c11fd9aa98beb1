def zsh (b : Nat) : Prop := b = 20 ∨ b = 27
def zsx (b : Nat) : Prop := b = 27 ∨ b = 35 ∨ b = 42
def zbc (a b : Nat) : Prop := (a = 20 ∧ b = 27) ∨ (a = 20 ∧ b = 35) ∨ (a = 20 ∧ b = 42) ∨ (a = 27 ∧ b = 20) ∨ (a = 35 ∧ b = 20) ∨ (a = 42 ∧ b = 20)
def zrw (b : Nat) : Prop := b = 2 ∨ b = 3 ∨ b = 4 ∨ b = 5 ∨ b = 6 ∨ b = 7 ∨ b = 8 ∨ b = 9
set_option maxRecDepth 100000 in
set_option maxHeartbeats 4000000 in
theorem e_X5_begin_0 (E : ZE) (M : ZM) (b : Nat) (hb : zsh b) (x1 : Int32) (x2 : Int32) (x3 : Int32) : zrun E tb_X5_begin cu_X5_begin 2000 [] 0 [some (.ref b), some (.int x1), some (.int x2), some (.int x3), none] [] M =
  (E.1 235 [.int (x1 * x2), .int 10] (zw M b 0 x1)).bind fun q1 =>
    some (.inr (57, [some (.ref b), none, none, none, some (.int 0)], [], zw (zw (zw (zw (zw (zw (zw q1.2 b 1 q1.1) b 2 0) b 3 x3) b 4 0) b 5 ((zshl 1 q1.1) - 1)) b 6 0) b 7 0)) := by
  rcases hb with rfl | rfl <;> rfl
set_option maxRecDepth 100000 in
set_option maxHeartbeats 4000000 in
theorem e_X5_begin_57 (E : ZE) (M : ZM) (b : Nat) (hb : zsh b) (x4 : Int32) : zrun E tb_X5_begin cu_X5_begin 2000 [] 57 [some (.ref b), none, none, none, some (.int x4)] [] M =
  if (M.1 b 1) ≤ x4 then
  (some (.inl (none, M)))
  else
  ((E.1 54 [.ref b, .int x4] M).bind fun q1 =>
    zck (zin x4 10)
      (some (.inr (57, [some (.ref b), none, none, none, some (.int (x4 + 1))], [], zw q1.2 (b + 1) x4.toNatClampNeg q1.1)))) := by
  rcases hb with rfl | rfl <;> rfl
set_option maxRecDepth 100000 in
set_option maxHeartbeats 4000000 in
theorem e_X5_findNext_0 (E : ZE) (M : ZM) (b : Nat) (hb : zsh b) (x1 : Int32) : zrun E tb_X5_findNext cu_X5_findNext 2000 [] 0 [some (.ref b), some (.int x1), none] [] M =
  if 1 ≤ (M.1 b 0) then
  (zck (!(decide (M.1 b 0 = 0)))
    (if (zrem x1 (M.1 b 0)) ≤ 0 then
      (zck (!(decide (M.1 b 0 = 0)))
        (if ((M.1 b 0) - 1) ≤ (zrem x1 (M.1 b 0)) then
          (if x1 < (M.1 b 0) then
            (if (M.1 b 1) ≤ (x1 + (M.1 b 0)) then
              (some (.inl (some (.int ((((0 ||| 0) ||| 0) ||| 0) ||| 0)), M)))
              else
              (some (.inl (some (.int ((((0 ||| 0) ||| 0) ||| 0) ||| (zshl 1 (x1 + (M.1 b 0))))), M))))
            else
            (if (M.1 b 1) ≤ (x1 + (M.1 b 0)) then
              (some (.inl (some (.int ((((0 ||| 0) ||| 0) ||| (zshl 1 (x1 - (M.1 b 0)))) ||| 0)), M)))
              else
              (some (.inl (some (.int ((((0 ||| 0) ||| 0) ||| (zshl 1 (x1 - (M.1 b 0)))) ||| (zshl 1 (x1 + (M.1 b 0))))), M)))))
          else
          (if x1 < (M.1 b 0) then
            (if (M.1 b 1) ≤ (x1 + (M.1 b 0)) then
              (some (.inl (some (.int ((((0 ||| 0) ||| (zshl 1 (x1 + 1))) ||| 0) ||| 0)), M)))
              else
              (some (.inl (some (.int ((((0 ||| 0) ||| (zshl 1 (x1 + 1))) ||| 0) ||| (zshl 1 (x1 + (M.1 b 0))))), M))))
            else
            (if (M.1 b 1) ≤ (x1 + (M.1 b 0)) then
              (some (.inl (some (.int ((((0 ||| 0) ||| (zshl 1 (x1 + 1))) ||| (zshl 1 (x1 - (M.1 b 0)))) ||| 0)), M)))
              else
              (some (.inl (some (.int ((((0 ||| 0) ||| (zshl 1 (x1 + 1))) ||| (zshl 1 (x1 - (M.1 b 0)))) ||| (zshl 1 (x1 + (M.1 b 0))))), M)))))))
      else
      (zck (!(decide (M.1 b 0 = 0)))
        (if ((M.1 b 0) - 1) ≤ (zrem x1 (M.1 b 0)) then
          (if x1 < (M.1 b 0) then
            (if (M.1 b 1) ≤ (x1 + (M.1 b 0)) then
              (some (.inl (some (.int ((((0 ||| (zshl 1 (x1 - 1))) ||| 0) ||| 0) ||| 0)), M)))
              else
              (some (.inl (some (.int ((((0 ||| (zshl 1 (x1 - 1))) ||| 0) ||| 0) ||| (zshl 1 (x1 + (M.1 b 0))))), M))))
            else
            (if (M.1 b 1) ≤ (x1 + (M.1 b 0)) then
              (some (.inl (some (.int ((((0 ||| (zshl 1 (x1 - 1))) ||| 0) ||| (zshl 1 (x1 - (M.1 b 0)))) ||| 0)), M)))
              else
              (some (.inl (some (.int ((((0 ||| (zshl 1 (x1 - 1))) ||| 0) ||| (zshl 1 (x1 - (M.1 b 0)))) ||| (zshl 1 (x1 + (M.1 b 0))))), M)))))
          else
          (if x1 < (M.1 b 0) then
            (if (M.1 b 1) ≤ (x1 + (M.1 b 0)) then
              (some (.inl (some (.int ((((0 ||| (zshl 1 (x1 - 1))) ||| (zshl 1 (x1 + 1))) ||| 0) ||| 0)), M)))
              else
              (some (.inl (some (.int ((((0 ||| (zshl 1 (x1 - 1))) ||| (zshl 1 (x1 + 1))) ||| 0) ||| (zshl 1 (x1 + (M.1 b 0))))), M))))
            else
            (if (M.1 b 1) ≤ (x1 + (M.1 b 0)) then
              (some (.inl (some (.int ((((0 ||| (zshl 1 (x1 - 1))) ||| (zshl 1 (x1 + 1))) ||| (zshl 1 (x1 - (M.1 b 0)))) ||| 0)), M)))
              else
              (some (.inl (some (.int ((((0 ||| (zshl 1 (x1 - 1))) ||| (zshl 1 (x1 + 1))) ||| (zshl 1 (x1 - (M.1 b 0)))) ||| (zshl 1 (x1 + (M.1 b 0))))), M)))))))))
  else
  (some (.inl (some (.int 0), M))) := by
  rcases hb with rfl | rfl <;> rfl
set_option maxRecDepth 100000 in
set_option maxHeartbeats 4000000 in
theorem e_X5_put_0 (E : ZE) (M : ZM) (b : Nat) (hb : zsh b) (x1 : Int32) (x2 : Int32) (x3 : Int32) : zrun E tb_X5_put cu_X5_put 2000 [] 0 [some (.ref b), some (.int x1), some (.int x2), some (.int x3)] [] M =
  zck (zin x1 10)
  (zck (zin x1 10)
    (if x2 < 4 then
      (some (.inl (none, zw (zw (zw M (b + 2) x1.toNatClampNeg x2) (b + 3) x1.toNatClampNeg x3) b 7 ((M.1 b 7) &&& ((zshl 1 x1) ^^^ (-1))))))
      else
      (some (.inl (none, zw (zw (zw M (b + 2) x1.toNatClampNeg x2) (b + 3) x1.toNatClampNeg x3) b 7 ((M.1 b 7) ||| (zshl 1 x1))))))) := by
  rcases hb with rfl | rfl <;> rfl
set_option maxRecDepth 100000 in
set_option maxHeartbeats 4000000 in
theorem e_X5_add_0 (E : ZE) (M : ZM) (b : Nat) (hb : zsh b) (x1 : Int32) (x2 : Int32) : zrun E tb_X5_add cu_X5_add 2000 [] 0 [some (.ref b), some (.int x1), some (.int x2)] [] M =
  if 5 ≤ (M.1 b 2) then
  (some (.inl (none, M)))
  else
  (zck (zin (M.1 b 2) 5)
    (zck (zin (M.1 b 2) 5)
      (zck (zin (M.1 b 2) 5)
        (some (.inl (none, zw (zw (zw (zw M (b + 4) (M.1 b 2).toNatClampNeg x1) (b + 5) (M.1 b 2).toNatClampNeg x2) (b + 6) (M.1 b 2).toNatClampNeg 0) b 2 ((M.1 b 2) + 1))))))) := by
  rcases hb with rfl | rfl <;> rfl
set_option maxRecDepth 100000 in
set_option maxHeartbeats 4000000 in
theorem e_X5_become_0 (E : ZE) (M : ZM) (b b1 : Nat) (hb : zbc b b1) : zrun E tb_X5_become cu_X5_become 2000 [] 0 [some (.ref b), some (.ref b1)] [] M =
  some (.inl (none, zcp (zcp (zcp (zcp (zcp (zcp (zw (zw (zw (zw (zw (zw (zw (zw M b 0 (M.1 b1 0)) b 1 ((zw M b 0 (M.1 b1 0)).1 b1 1)) b 2 ((zw (zw M b 0 (M.1 b1 0)) b 1 ((zw M b 0 (M.1 b1 0)).1 b1 1)).1 b1 2)) b 3 ((zw (zw (zw M b 0 (M.1 b1 0)) b 1 ((zw M b 0 (M.1 b1 0)).1 b1 1)) b 2 ((zw (zw M b 0 (M.1 b1 0)) b 1 ((zw M b 0 (M.1 b1 0)).1 b1 1)).1 b1 2)).1 b1 3)) b 4 ((zw (zw (zw (zw M b 0 (M.1 b1 0)) b 1 ((zw M b 0 (M.1 b1 0)).1 b1 1)) b 2 ((zw (zw M b 0 (M.1 b1 0)) b 1 ((zw M b 0 (M.1 b1 0)).1 b1 1)).1 b1 2)) b 3 ((zw (zw (zw M b 0 (M.1 b1 0)) b 1 ((zw M b 0 (M.1 b1 0)).1 b1 1)) b 2 ((zw (zw M b 0 (M.1 b1 0)) b 1 ((zw M b 0 (M.1 b1 0)).1 b1 1)).1 b1 2)).1 b1 3)).1 b1 4)) b 5 ((zw (zw (zw (zw (zw M b 0 (M.1 b1 0)) b 1 ((zw M b 0 (M.1 b1 0)).1 b1 1)) b 2 ((zw (zw M b 0 (M.1 b1 0)) b 1 ((zw M b 0 (M.1 b1 0)).1 b1 1)).1 b1 2)) b 3 ((zw (zw (zw M b 0 (M.1 b1 0)) b 1 ((zw M b 0 (M.1 b1 0)).1 b1 1)) b 2 ((zw (zw M b 0 (M.1 b1 0)) b 1 ((zw M b 0 (M.1 b1 0)).1 b1 1)).1 b1 2)).1 b1 3)) b 4 ((zw (zw (zw (zw M b 0 (M.1 b1 0)) b 1 ((zw M b 0 (M.1 b1 0)).1 b1 1)) b 2 ((zw (zw M b 0 (M.1 b1 0)) b 1 ((zw M b 0 (M.1 b1 0)).1 b1 1)).1 b1 2)) b 3 ((zw (zw (zw M b 0 (M.1 b1 0)) b 1 ((zw M b 0 (M.1 b1 0)).1 b1 1)) b 2 ((zw (zw M b 0 (M.1 b1 0)) b 1 ((zw M b 0 (M.1 b1 0)).1 b1 1)).1 b1 2)).1 b1 3)).1 b1 4)).1 b1 5)) b 6 ((zw (zw (zw (zw (zw (zw M b 0 (M.1 b1 0)) b 1 ((zw M b 0 (M.1 b1 0)).1 b1 1)) b 2 ((zw (zw M b 0 (M.1 b1 0)) b 1 ((zw M b 0 (M.1 b1 0)).1 b1 1)).1 b1 2)) b 3 ((zw (zw (zw M b 0 (M.1 b1 0)) b 1 ((zw M b 0 (M.1 b1 0)).1 b1 1)) b 2 ((zw (zw M b 0 (M.1 b1 0)) b 1 ((zw M b 0 (M.1 b1 0)).1 b1 1)).1 b1 2)).1 b1 3)) b 4 ((zw (zw (zw (zw M b 0 (M.1 b1 0)) b 1 ((zw M b 0 (M.1 b1 0)).1 b1 1)) b 2 ((zw (zw M b 0 (M.1 b1 0)) b 1 ((zw M b 0 (M.1 b1 0)).1 b1 1)).1 b1 2)) b 3 ((zw (zw (zw M b 0 (M.1 b1 0)) b 1 ((zw M b 0 (M.1 b1 0)).1 b1 1)) b 2 ((zw (zw M b 0 (M.1 b1 0)) b 1 ((zw M b 0 (M.1 b1 0)).1 b1 1)).1 b1 2)).1 b1 3)).1 b1 4)) b 5 ((zw (zw (zw (zw (zw M b 0 (M.1 b1 0)) b 1 ((zw M b 0 (M.1 b1 0)).1 b1 1)) b 2 ((zw (zw M b 0 (M.1 b1 0)) b 1 ((zw M b 0 (M.1 b1 0)).1 b1 1)).1 b1 2)) b 3 ((zw (zw (zw M b 0 (M.1 b1 0)) b 1 ((zw M b 0 (M.1 b1 0)).1 b1 1)) b 2 ((zw (zw M b 0 (M.1 b1 0)) b 1 ((zw M b 0 (M.1 b1 0)).1 b1 1)).1 b1 2)).1 b1 3)) b 4 ((zw (zw (zw (zw M b 0 (M.1 b1 0)) b 1 ((zw M b 0 (M.1 b1 0)).1 b1 1)) b 2 ((zw (zw M b 0 (M.1 b1 0)) b 1 ((zw M b 0 (M.1 b1 0)).1 b1 1)).1 b1 2)) b 3 ((zw (zw (zw M b 0 (M.1 b1 0)) b 1 ((zw M b 0 (M.1 b1 0)).1 b1 1)) b 2 ((zw (zw M b 0 (M.1 b1 0)) b 1 ((zw M b 0 (M.1 b1 0)).1 b1 1)).1 b1 2)).1 b1 3)).1 b1 4)).1 b1 5)).1 b1 6)) b 7 ((zw (zw (zw (zw (zw (zw (zw M b 0 (M.1 b1 0)) b 1 ((zw M b 0 (M.1 b1 0)).1 b1 1)) b 2 ((zw (zw M b 0 (M.1 b1 0)) b 1 ((zw M b 0 (M.1 b1 0)).1 b1 1)).1 b1 2)) b 3 ((zw (zw (zw M b 0 (M.1 b1 0)) b 1 ((zw M b 0 (M.1 b1 0)).1 b1 1)) b 2 ((zw (zw M b 0 (M.1 b1 0)) b 1 ((zw M b 0 (M.1 b1 0)).1 b1 1)).1 b1 2)).1 b1 3)) b 4 ((zw (zw (zw (zw M b 0 (M.1 b1 0)) b 1 ((zw M b 0 (M.1 b1 0)).1 b1 1)) b 2 ((zw (zw M b 0 (M.1 b1 0)) b 1 ((zw M b 0 (M.1 b1 0)).1 b1 1)).1 b1 2)) b 3 ((zw (zw (zw M b 0 (M.1 b1 0)) b 1 ((zw M b 0 (M.1 b1 0)).1 b1 1)) b 2 ((zw (zw M b 0 (M.1 b1 0)) b 1 ((zw M b 0 (M.1 b1 0)).1 b1 1)).1 b1 2)).1 b1 3)).1 b1 4)) b 5 ((zw (zw (zw (zw (zw M b 0 (M.1 b1 0)) b 1 ((zw M b 0 (M.1 b1 0)).1 b1 1)) b 2 ((zw (zw M b 0 (M.1 b1 0)) b 1 ((zw M b 0 (M.1 b1 0)).1 b1 1)).1 b1 2)) b 3 ((zw (zw (zw M b 0 (M.1 b1 0)) b 1 ((zw M b 0 (M.1 b1 0)).1 b1 1)) b 2 ((zw (zw M b 0 (M.1 b1 0)) b 1 ((zw M b 0 (M.1 b1 0)).1 b1 1)).1 b1 2)).1 b1 3)) b 4 ((zw (zw (zw (zw M b 0 (M.1 b1 0)) b 1 ((zw M b 0 (M.1 b1 0)).1 b1 1)) b 2 ((zw (zw M b 0 (M.1 b1 0)) b 1 ((zw M b 0 (M.1 b1 0)).1 b1 1)).1 b1 2)) b 3 ((zw (zw (zw M b 0 (M.1 b1 0)) b 1 ((zw M b 0 (M.1 b1 0)).1 b1 1)) b 2 ((zw (zw M b 0 (M.1 b1 0)) b 1 ((zw M b 0 (M.1 b1 0)).1 b1 1)).1 b1 2)).1 b1 3)).1 b1 4)).1 b1 5)) b 6 ((zw (zw (zw (zw (zw (zw M b 0 (M.1 b1 0)) b 1 ((zw M b 0 (M.1 b1 0)).1 b1 1)) b 2 ((zw (zw M b 0 (M.1 b1 0)) b 1 ((zw M b 0 (M.1 b1 0)).1 b1 1)).1 b1 2)) b 3 ((zw (zw (zw M b 0 (M.1 b1 0)) b 1 ((zw M b 0 (M.1 b1 0)).1 b1 1)) b 2 ((zw (zw M b 0 (M.1 b1 0)) b 1 ((zw M b 0 (M.1 b1 0)).1 b1 1)).1 b1 2)).1 b1 3)) b 4 ((zw (zw (zw (zw M b 0 (M.1 b1 0)) b 1 ((zw M b 0 (M.1 b1 0)).1 b1 1)) b 2 ((zw (zw M b 0 (M.1 b1 0)) b 1 ((zw M b 0 (M.1 b1 0)).1 b1 1)).1 b1 2)) b 3 ((zw (zw (zw M b 0 (M.1 b1 0)) b 1 ((zw M b 0 (M.1 b1 0)).1 b1 1)) b 2 ((zw (zw M b 0 (M.1 b1 0)) b 1 ((zw M b 0 (M.1 b1 0)).1 b1 1)).1 b1 2)).1 b1 3)).1 b1 4)) b 5 ((zw (zw (zw (zw (zw M b 0 (M.1 b1 0)) b 1 ((zw M b 0 (M.1 b1 0)).1 b1 1)) b 2 ((zw (zw M b 0 (M.1 b1 0)) b 1 ((zw M b 0 (M.1 b1 0)).1 b1 1)).1 b1 2)) b 3 ((zw (zw (zw M b 0 (M.1 b1 0)) b 1 ((zw M b 0 (M.1 b1 0)).1 b1 1)) b 2 ((zw (zw M b 0 (M.1 b1 0)) b 1 ((zw M b 0 (M.1 b1 0)).1 b1 1)).1 b1 2)).1 b1 3)) b 4 ((zw (zw (zw (zw M b 0 (M.1 b1 0)) b 1 ((zw M b 0 (M.1 b1 0)).1 b1 1)) b 2 ((zw (zw M b 0 (M.1 b1 0)) b 1 ((zw M b 0 (M.1 b1 0)).1 b1 1)).1 b1 2)) b 3 ((zw (zw (zw M b 0 (M.1 b1 0)) b 1 ((zw M b 0 (M.1 b1 0)).1 b1 1)) b 2 ((zw (zw M b 0 (M.1 b1 0)) b 1 ((zw M b 0 (M.1 b1 0)).1 b1 1)).1 b1 2)).1 b1 3)).1 b1 4)).1 b1 5)).1 b1 6)).1 b1 7)) (b1 + 1) 0 (b + 1) 0 10) (b1 + 2) 0 (b + 2) 0 10) (b1 + 3) 0 (b + 3) 0 10) (b1 + 4) 0 (b + 4) 0 5) (b1 + 5) 0 (b + 5) 0 5) (b1 + 6) 0 (b + 6) 0 5)) := by
  rcases hb with ⟨rfl, rfl⟩ | ⟨rfl, rfl⟩ | ⟨rfl, rfl⟩ | ⟨rfl, rfl⟩ | ⟨rfl, rfl⟩ | ⟨rfl, rfl⟩ <;> rfl
set_option maxRecDepth 100000 in
set_option maxHeartbeats 4000000 in
theorem e_X5_sell_0 (E : ZE) (M : ZM) (b : Nat) (hb : zsh b) (x1 : Int32) (x2 : Int32) (x3 : Int32) : zrun E tb_X5_sell cu_X5_sell 2000 [] 0 [some (.ref b), some (.int x1), some (.int x2), some (.int x3)] [] M =
  zck (zin x1 5)
  (some (.inl (none, zw (zw (zw M (b + 6) x1.toNatClampNeg x2) b 5 ((M.1 b 5) &&& (x2 ^^^ (-1)))) b 4 ((M.1 b 4) + x3)))) := by
  rcases hb with rfl | rfl <;> rfl
set_option maxRecDepth 100000 in
set_option maxHeartbeats 4000000 in
theorem e_X5_takeBack_0 (E : ZE) (M : ZM) (b : Nat) (hb : zsh b) (x1 : Int32) : zrun E tb_X5_takeBack cu_X5_takeBack 2000 [] 0 [some (.ref b), some (.int x1)] [] M =
  zck (zin x1 5)
  (zck (zin x1 5)
      (some (.inl (none, zw (zw M b 5 ((M.1 b 5) ||| (M.1 (b + 6) x1.toNatClampNeg))) (b + 6) x1.toNatClampNeg 0)))) := by
  rcases hb with rfl | rfl <;> rfl
set_option maxRecDepth 100000 in
set_option maxHeartbeats 4000000 in
theorem e_X5_lose_0 (E : ZE) (M : ZM) (b : Nat) (hb : zsh b) (x1 : Int32) : zrun E tb_X5_lose cu_X5_lose 2000 [] 0 [some (.ref b), some (.int x1)] [] M =
  some (.inl (none, zw (zw M b 5 ((M.1 b 5) &&& ((zshl 1 x1) ^^^ (-1)))) b 6 ((M.1 b 6) ||| (zshl 1 x1)))) := by
  rcases hb with rfl | rfl <;> rfl
set_option maxRecDepth 100000 in
set_option maxHeartbeats 4000000 in
theorem e_X5_isOn_0 (E : ZE) (M : ZM) (b : Nat) (hb : zsh b) (x1 : Int32) : zrun E tb_X5_isOn cu_X5_isOn 2000 [] 0 [some (.ref b), some (.int x1)] [] M =
  if ((zshr (M.1 b 5) x1) &&& 1) = 0 then
  (some (.inl (some (.int 0), M)))
  else
  (some (.inl (some (.int 1), M))) := by
  rcases hb with rfl | rfl <;> rfl
set_option maxRecDepth 100000 in
set_option maxHeartbeats 4000000 in
theorem e_X5_holds_0 (E : ZE) (M : ZM) (b : Nat) (hb : zsh b) (x1 : Int32) : zrun E tb_X5_holds cu_X5_holds 2000 [] 0 [some (.ref b), some (.int x1)] [] M =
  if (x1 &&& ((M.1 b 5) ^^^ (-1))) = 0 then
  (some (.inl (some (.int 1), M)))
  else
  (some (.inl (some (.int 0), M))) := by
  rcases hb with rfl | rfl <;> rfl
set_option maxRecDepth 100000 in
set_option maxHeartbeats 4000000 in
theorem e_X5_isServed_0 (E : ZE) (M : ZM) (b : Nat) (hb : zsh b) (x1 : Int32) : zrun E tb_X5_isServed cu_X5_isServed 2000 [] 0 [some (.ref b), some (.int x1)] [] M =
  zck (zin x1 5)
  (if (M.1 (b + 6) x1.toNatClampNeg) = 0 then
    (some (.inl (some (.int 0), M)))
    else
    (some (.inl (some (.int 1), M)))) := by
  rcases hb with rfl | rfl <;> rfl
set_option maxRecDepth 100000 in
set_option maxHeartbeats 4000000 in
theorem e_X5_suits_0 (E : ZE) (M : ZM) (b : Nat) (hb : zsh b) (x1 : Int32) (x2 : Int32) : zrun E tb_X5_suits cu_X5_suits 2000 [] 0 [some (.ref b), some (.int x1), some (.int x2)] [] M =
  zck (zin x1 5)
  (if x2 < (M.1 (b + 4) x1.toNatClampNeg) then
    (some (.inl (some (.int 0), M)))
    else
    (zck (zin x1 5)
      (if (M.1 (b + 5) x1.toNatClampNeg) < x2 then
        (some (.inl (some (.int 0), M)))
        else
        (some (.inl (some (.int 1), M)))))) := by
  rcases hb with rfl | rfl <;> rfl
set_option maxRecDepth 100000 in
set_option maxHeartbeats 4000000 in
theorem e_X5_served_0 (E : ZE) (M : ZM) (b : Nat) (hb : zsh b) : zrun E tb_X5_served cu_X5_served 2000 [] 0 [some (.ref b), none, none] [] M =
  some (.inr (4, [some (.ref b), some (.int 0), some (.int 0)], [], M)) := by
  rcases hb with rfl | rfl <;> rfl
set_option maxRecDepth 100000 in
set_option maxHeartbeats 4000000 in
theorem e_X5_served_4 (E : ZE) (M : ZM) (b : Nat) (hb : zsh b) (x1 : Int32) (x2 : Int32) : zrun E tb_X5_served cu_X5_served 2000 [] 4 [some (.ref b), some (.int x1), some (.int x2)] [] M =
  if (M.1 b 2) ≤ x2 then
  (some (.inl (some (.int x1), M)))
  else
  ((E.1 63 [.ref b, .int x2] M).bind fun q1 =>
    if q1.1 = 0 then
      (some (.inr (4, [some (.ref b), some (.int (x1 ||| 0)), some (.int (x2 + 1))], [], q1.2)))
      else
      (some (.inr (4, [some (.ref b), some (.int (x1 ||| (zshl 1 x2))), some (.int (x2 + 1))], [], q1.2)))) := by
  rcases hb with rfl | rfl <;> rfl
set_option maxRecDepth 100000 in
set_option maxHeartbeats 4000000 in
theorem e_X5_howIs_0 (E : ZE) (M : ZM) (b : Nat) (hb : zsh b) (x1 : Int32) : zrun E tb_X5_howIs cu_X5_howIs 2000 [] 0 [some (.ref b), some (.int x1)] [] M =
  (E.1 61 [.ref b, .int x1] M).bind fun q1 =>
  if q1.1 = 0 then
    (if ((zshr (q1.2.1 b 6) x1) &&& 1) = 0 then
      (some (.inl (some (.int 1), q1.2)))
      else
      (some (.inl (some (.int 2), q1.2))))
    else
    (some (.inl (some (.int 0), q1.2))) := by
  rcases hb with rfl | rfl <;> rfl
set_option maxRecDepth 100000 in
set_option maxHeartbeats 4000000 in
theorem e_X5_ownerOf_0 (E : ZE) (M : ZM) (b : Nat) (hb : zsh b) (x1 : Int32) : zrun E tb_X5_ownerOf cu_X5_ownerOf 2000 [] 0 [some (.ref b), some (.int x1), none] [] M =
  some (.inr (2, [some (.ref b), some (.int x1), some (.int 0)], [], M)) := by
  rcases hb with rfl | rfl <;> rfl
set_option maxRecDepth 100000 in
set_option maxHeartbeats 4000000 in
theorem e_X5_ownerOf_2 (E : ZE) (M : ZM) (b : Nat) (hb : zsh b) (x1 : Int32) (x2 : Int32) : zrun E tb_X5_ownerOf cu_X5_ownerOf 2000 [] 2 [some (.ref b), some (.int x1), some (.int x2)] [] M =
  if (M.1 b 2) ≤ x2 then
  (some (.inl (some (.int (-1000000)), M)))
  else
  (zck (zin x2 5)
    (if ((zshr (M.1 (b + 6) x2.toNatClampNeg) x1) &&& 1) = 0 then
      (some (.inr (2, [some (.ref b), some (.int x1), some (.int (x2 + 1))], [], M)))
      else
      (some (.inl (some (.int x2), M))))) := by
  rcases hb with rfl | rfl <;> rfl
set_option maxRecDepth 100000 in
set_option maxHeartbeats 4000000 in
theorem e_X5_paysOf_0 (E : ZE) (M : ZM) (b : Nat) (hb : zsh b) (x1 : Int32) : zrun E tb_X5_paysOf cu_X5_paysOf 2000 [] 0 [some (.ref b), some (.int x1), none, none] [] M =
  some (.inr (4, [some (.ref b), some (.int x1), some (.int 0), some (.int 0)], [], M)) := by
  rcases hb with rfl | rfl <;> rfl
set_option maxRecDepth 100000 in
set_option maxHeartbeats 4000000 in
theorem e_X5_paysOf_4 (E : ZE) (M : ZM) (b : Nat) (hb : zsh b) (x1 : Int32) (x2 : Int32) (x3 : Int32) : zrun E tb_X5_paysOf cu_X5_paysOf 2000 [] 4 [some (.ref b), some (.int x1), some (.int x2), some (.int x3)] [] M =
  if (M.1 b 1) ≤ x3 then
  (some (.inl (some (.int x2), M)))
  else
  (if ((zshr x1 x3) &&& 1) = 0 then
    (some (.inr (4, [some (.ref b), some (.int x1), some (.int (x2 + 0)), some (.int (x3 + 1))], [], M)))
    else
    ((E.1 69 [.ref b, .int x3, .int x1] M).bind fun q1 =>
      some (.inr (4, [some (.ref b), some (.int x1), some (.int (x2 + q1.1)), some (.int (x3 + 1))], [], q1.2)))) := by
  rcases hb with rfl | rfl <;> rfl
set_option maxRecDepth 100000 in
set_option maxHeartbeats 4000000 in
theorem e_X5_payOfStamp_0 (E : ZE) (M : ZM) (b : Nat) (hb : zsh b) (x1 : Int32) (x2 : Int32) : zrun E tb_X5_payOfStamp cu_X5_payOfStamp 2000 [] 0 [some (.ref b), some (.int x1), some (.int x2)] [] M =
  zck (zin x1 10)
  (if (M.1 (b + 2) x1.toNatClampNeg) = 1 then
    (zck (zin x1 10)
      (some (.inl (some (.int (M.1 (b + 3) x1.toNatClampNeg)), M))))
    else if (M.1 (b + 2) x1.toNatClampNeg) = 2 then
    (zck (zin x1 10)
      (some (.inl (some (.int ((M.1 (b + 3) x1.toNatClampNeg) + (M.1 b 3))), M))))
    else if (M.1 (b + 2) x1.toNatClampNeg) = 3 then
    (zck (zin x1 10)
      (some (.inl (some (.int ((M.1 (b + 3) x1.toNatClampNeg) / 2)), M))))
    else if (M.1 (b + 2) x1.toNatClampNeg) = 4 then
    (zck (zin x1 10)
      (zck (zin x1 10)
        ((E.1 233 [.int (((M.1 (b + 1) x1.toNatClampNeg) &&& x2) &&& (M.1 b 7))] M).bind fun q1 =>
          some (.inl (some (.int ((M.1 (b + 3) x1.toNatClampNeg) * q1.1)), q1.2)))))
    else if (M.1 (b + 2) x1.toNatClampNeg) = 5 then
    (zck (zin x1 10)
      (zck (zin x1 10)
        ((E.1 233 [.int (((M.1 (b + 1) x1.toNatClampNeg) &&& x2) &&& (M.1 b 7))] M).bind fun q2 =>
          some (.inl (some (.int (((M.1 (b + 3) x1.toNatClampNeg) * q2.1) + 5)), q2.2)))))
    else (some (.inl (some (.int 0), M)))) := by
  rcases hb with rfl | rfl <;> rfl
set_option maxRecDepth 100000 in
set_option maxHeartbeats 4000000 in
theorem e_X5_tearsOf_0 (E : ZE) (M : ZM) (b : Nat) (hb : zsh b) (x1 : Int32) : zrun E tb_X5_tearsOf cu_X5_tearsOf 2000 [] 0 [some (.ref b), some (.int x1), none, none] [] M =
  some (.inr (4, [some (.ref b), some (.int x1), some (.int 0), some (.int 0)], [], M)) := by
  rcases hb with rfl | rfl <;> rfl
set_option maxRecDepth 100000 in
set_option maxHeartbeats 4000000 in
theorem e_X5_tearsOf_4 (E : ZE) (M : ZM) (b : Nat) (hb : zsh b) (x1 : Int32) (x2 : Int32) (x3 : Int32) : zrun E tb_X5_tearsOf cu_X5_tearsOf 2000 [] 4 [some (.ref b), some (.int x1), some (.int x2), some (.int x3)] [] M =
  if (M.1 b 1) ≤ x3 then
  (some (.inl (some (.int x2), M)))
  else
  (if ((zshr x1 x3) &&& 1) = 0 then
    (some (.inr (4, [some (.ref b), some (.int x1), some (.int (x2 + 0)), some (.int (x3 + 1))], [], M)))
    else
    (zck (zin x3 10)
      ((E.1 233 [.int (((M.1 (b + 1) x3.toNatClampNeg) &&& (M.1 b 5)) &&& (x1 ^^^ (-1)))] M).bind fun q1 =>
        some (.inr (4, [some (.ref b), some (.int x1), some (.int (x2 + q1.1)), some (.int (x3 + 1))], [], q1.2))))) := by
  rcases hb with rfl | rfl <;> rfl
set_option maxRecDepth 100000 in
set_option maxHeartbeats 4000000 in
theorem e_X5_nextTo_0 (E : ZE) (M : ZM) (b : Nat) (hb : zsh b) (x1 : Int32) : zrun E tb_X5_nextTo cu_X5_nextTo 2000 [] 0 [some (.ref b), some (.int x1), none, none] [] M =
  some (.inr (4, [some (.ref b), some (.int x1), some (.int 0), some (.int 0)], [], M)) := by
  rcases hb with rfl | rfl <;> rfl
set_option maxRecDepth 100000 in
set_option maxHeartbeats 4000000 in
theorem e_X5_nextTo_4 (E : ZE) (M : ZM) (b : Nat) (hb : zsh b) (x1 : Int32) (x2 : Int32) (x3 : Int32) : zrun E tb_X5_nextTo cu_X5_nextTo 2000 [] 4 [some (.ref b), some (.int x1), some (.int x2), some (.int x3)] [] M =
  if (M.1 b 1) ≤ x3 then
  (some (.inl (some (.int x2), M)))
  else
  (if ((zshr x1 x3) &&& 1) = 0 then
    (some (.inr (4, [some (.ref b), some (.int x1), some (.int (x2 ||| 0)), some (.int (x3 + 1))], [], M)))
    else
    (zck (zin x3 10)
      (some (.inr (4, [some (.ref b), some (.int x1), some (.int (x2 ||| (M.1 (b + 1) x3.toNatClampNeg))), some (.int (x3 + 1))], [], M))))) := by
  rcases hb with rfl | rfl <;> rfl
set_option maxRecDepth 100000 in
set_option maxHeartbeats 4000000 in
theorem e_X5_partAround_0 (E : ZE) (M : ZM) (b : Nat) (hb : zsh b) (x1 : Int32) (x2 : Int32) : zrun E tb_X5_partAround cu_X5_partAround 2000 [] 0 [some (.ref b), some (.int x1), some (.int x2), none, none] [] M =
  some (.inr (5, [some (.ref b), none, some (.int x2), some (.int x1), some (.int 0)], [], M)) := by
  rcases hb with rfl | rfl <;> rfl
set_option maxRecDepth 100000 in
set_option maxHeartbeats 4000000 in
theorem e_X5_partAround_5 (E : ZE) (M : ZM) (b : Nat) (hb : zsh b) (x2 : Int32) (x3 : Int32) (x4 : Int32) : zrun E tb_X5_partAround cu_X5_partAround 2000 [] 5 [some (.ref b), none, some (.int x2), some (.int x3), some (.int x4)] [] M =
  if 10 ≤ x4 then
  (some (.inl (some (.int x3), M)))
  else
  ((E.1 71 [.ref b, .int x3] M).bind fun q1 =>
    some (.inr (5, [some (.ref b), none, some (.int x2), some (.int (x3 ||| (q1.1 &&& x2))), some (.int (x4 + 1))], [], q1.2))) := by
  rcases hb with rfl | rfl <;> rfl
set_option maxRecDepth 100000 in
set_option maxHeartbeats 4000000 in
theorem e_X5_countParts_0 (E : ZE) (M : ZM) (b : Nat) (hb : zsh b) (x1 : Int32) : zrun E tb_X5_countParts cu_X5_countParts 2000 [] 0 [some (.ref b), some (.int x1), none, none] [] M =
  some (.inr (4, [some (.ref b), some (.int x1), some (.int x1), some (.int 0)], [], M)) := by
  rcases hb with rfl | rfl <;> rfl
set_option maxRecDepth 100000 in
set_option maxHeartbeats 4000000 in
theorem e_X5_countParts_4 (E : ZE) (M : ZM) (b : Nat) (hb : zsh b) (x1 : Int32) (x2 : Int32) (x3 : Int32) : zrun E tb_X5_countParts cu_X5_countParts 2000 [] 4 [some (.ref b), some (.int x1), some (.int x2), some (.int x3)] [] M =
  if 10 ≤ x3 then
  (some (.inl (some (.int x3), M)))
  else
  (if x2 = 0 then
    (some (.inl (some (.int x3), M)))
    else
    ((E.1 231 [.int x2] M).bind fun q1 =>
      (E.1 72 [.ref b, .int q1.1, .int x1] q1.2).bind fun q2 =>
        some (.inr (4, [some (.ref b), some (.int x1), some (.int (x2 &&& (q2.1 ^^^ (-1)))), some (.int (x3 + 1))], [], q2.2)))) := by
  rcases hb with rfl | rfl <;> rfl
set_option maxRecDepth 100000 in
set_option maxHeartbeats 4000000 in
theorem e_X5_partNumber_0 (E : ZE) (M : ZM) (b : Nat) (hb : zsh b) (x1 : Int32) : zrun E tb_X5_partNumber cu_X5_partNumber 2000 [] 0 [some (.ref b), some (.int x1), none, none, none] [] M =
  some (.inr (7, [some (.ref b), some (.int x1), some (.int (M.1 b 5)), some (.int 0), none], [], M)) := by
  rcases hb with rfl | rfl <;> rfl
set_option maxRecDepth 100000 in
set_option maxHeartbeats 4000000 in
theorem e_X5_partNumber_7 (E : ZE) (M : ZM) (b : Nat) (hb : zsh b) (x1 : Int32) (x2 : Int32) (x3 : Int32) : zrun E tb_X5_partNumber cu_X5_partNumber 2000 [] 7 [some (.ref b), some (.int x1), some (.int x2), some (.int x3), none] [] M =
  if 10 ≤ x3 then
  (some (.inl (some (.int (-1000000)), M)))
  else
  (if x2 = 0 then
    (some (.inl (some (.int (-1000000)), M)))
    else
    ((E.1 231 [.int x2] M).bind fun q1 =>
      (E.1 72 [.ref b, .int q1.1, .int (q1.2.1 b 5)] q1.2).bind fun q2 =>
        if x3 = x1 then
          (some (.inl (some (.int q2.1), q2.2)))
          else
          (some (.inr (7, [some (.ref b), some (.int x1), some (.int (x2 &&& (q2.1 ^^^ (-1)))), some (.int (x3 + 1)), none], [], q2.2))))) := by
  rcases hb with rfl | rfl <;> rfl
set_option maxRecDepth 100000 in
set_option maxHeartbeats 4000000 in
theorem e_X5_stepsBetween_0 (E : ZE) (M : ZM) (b : Nat) (hb : zsh b) (x1 : Int32) (x2 : Int32) : zrun E tb_X5_stepsBetween cu_X5_stepsBetween 2000 [] 0 [some (.ref b), some (.int x1), some (.int x2), none, none] [] M =
  some (.inr (7, [some (.ref b), some (.int x1), none, some (.int (zshl 1 x2)), some (.int 0)], [], M)) := by
  rcases hb with rfl | rfl <;> rfl
set_option maxRecDepth 100000 in
set_option maxHeartbeats 4000000 in
theorem e_X5_stepsBetween_7 (E : ZE) (M : ZM) (b : Nat) (hb : zsh b) (x1 : Int32) (x3 : Int32) (x4 : Int32) : zrun E tb_X5_stepsBetween cu_X5_stepsBetween 2000 [] 7 [some (.ref b), some (.int x1), none, some (.int x3), some (.int x4)] [] M =
  if 10 ≤ x4 then
  (some (.inl (some (.int (-1000000)), M)))
  else
  (if ((zshr x3 x1) &&& 1) = 0 then
    ((E.1 71 [.ref b, .int x3] M).bind fun q1 =>
      some (.inr (7, [some (.ref b), some (.int x1), none, some (.int (x3 ||| (q1.1 &&& (q1.2.1 b 5)))), some (.int (x4 + 1))], [], q1.2)))
    else
    (some (.inl (some (.int x4), M)))) := by
  rcases hb with rfl | rfl <;> rfl
set_option maxRecDepth 100000 in
set_option maxHeartbeats 4000000 in
theorem e_X5_firstStep_0 (E : ZE) (M : ZM) (b : Nat) (hb : zsh b) (x1 : Int32) (x2 : Int32) : zrun E tb_X5_firstStep cu_X5_firstStep 2000 [] 0 [some (.ref b), some (.int x1), some (.int x2), none, none, none] [] M =
  (E.1 75 [.ref b, .int x1, .int x2] M).bind fun q1 =>
  some (.inr (10, [some (.ref b), some (.int x1), some (.int x2), some (.int q1.1), some (.int 0), none], [], q1.2)) := by
  rcases hb with rfl | rfl <;> rfl
set_option maxRecDepth 100000 in
set_option maxHeartbeats 4000000 in
theorem e_X5_firstStep_10 (E : ZE) (M : ZM) (b : Nat) (hb : zsh b) (x1 : Int32) (x2 : Int32) (x3 : Int32) (x4 : Int32) : zrun E tb_X5_firstStep cu_X5_firstStep 2000 [] 10 [some (.ref b), some (.int x1), some (.int x2), some (.int x3), some (.int x4), none] [] M =
  if x3 ≤ 0 then
  (some (.inl (some (.int (-1000000)), M)))
  else
  (if (M.1 b 1) ≤ x4 then
    (some (.inl (some (.int (-1000000)), M)))
    else
    (zck (zin x1 10)
      (if (((M.1 (b + 1) x1.toNatClampNeg) &&& (M.1 b 5)) &&& (zshl 1 x4)) = 0 then
        (if (0 : Int32) = 0 then
          (some (.inr (10, [some (.ref b), some (.int x1), some (.int x2), some (.int x3), some (.int (x4 + 1)), none], [], M)))
          else
          ((E.1 75 [.ref b, .int x4, .int x2] M).bind fun q1 =>
            if q1.1 = (x3 - 1) then
              (some (.inl (some (.int x4), q1.2)))
              else
              (some (.inr (10, [some (.ref b), some (.int x1), some (.int x2), some (.int x3), some (.int (x4 + 1)), none], [], q1.2)))))
        else
        (if (1 : Int32) = 0 then
          (some (.inr (10, [some (.ref b), some (.int x1), some (.int x2), some (.int x3), some (.int (x4 + 1)), none], [], M)))
          else
          ((E.1 75 [.ref b, .int x4, .int x2] M).bind fun q2 =>
            if q2.1 = (x3 - 1) then
              (some (.inl (some (.int x4), q2.2)))
              else
              (some (.inr (10, [some (.ref b), some (.int x1), some (.int x2), some (.int x3), some (.int (x4 + 1)), none], [], q2.2)))))))) := by
  rcases hb with rfl | rfl <;> rfl

def cu2_J6_bitCount_0f7a4 : List (Nat × List Bool) := [(10, [true]), (24, [true]), (34, [true]), (41, [true]), (48, [true])]
def cu2_J6_numberOfTrailingZeros_0f7a4 : List (Nat × List Bool) := [(8, [true, false]), (17, [true, false]), (34, [true, true]), (49, [true, true]), (62, [true, true]), (74, [true, true])]
set_option maxRecDepth 100000 in
set_option maxHeartbeats 4000000 in
theorem e_X0_keep_0 (E : ZE) (M : ZM) (x1 : Int32) (x2 : Int32) (x3 : Int32) : zrun E tb_X0_keep cu_X0_keep 2000 [] 0 [some (.ref 49), some (.int x1), some (.int x2), some (.int x3)] [] M =
  zck (zin (M.1 49 3) 24)
  (zck (zin (M.1 49 3) 24)
    (zck (zin (M.1 49 3) 24)
      ((E.1 235 [.int ((M.1 49 4) + 1), .int 24] (zw (zw (zw (zw M 50 (M.1 49 3).toNatClampNeg x1) 51 (M.1 49 3).toNatClampNeg x2) 52 (M.1 49 3).toNatClampNeg x3) 49 3 (zrem ((M.1 49 3) + 1) 24))).bind fun q1 =>
            some (.inl (none, zw q1.2 49 4 q1.1))))) := rfl
set_option maxRecDepth 100000 in
set_option maxHeartbeats 4000000 in
theorem e_X0_takeBackLatest_0 (E : ZE) (M : ZM) (b1 : Nat) (hb1 : zsh b1) : zrun E tb_X0_takeBackLatest cu_X0_takeBackLatest 2000 [] 0 [some (.ref 49), some (.ref b1), none] [] M =
  zck (zin (zrem (((M.1 49 3) + 24) - 1) 24) 24)
        (zck (zin (zrem (((M.1 49 3) + 24) - 1) 24) 24)
          (if (M.1 50 (zrem (((M.1 49 3) + 24) - 1) 24).toNatClampNeg) = 0 then
            ((E.2.2 59 [.ref b1, .int (M.1 51 (zrem (((M.1 49 3) + 24) - 1) 24).toNatClampNeg)] (zw (zw M 49 3 (zrem (((M.1 49 3) + 24) - 1) 24)) 49 4 ((M.1 49 4) - 1))).bind fun q1 =>
              zck (zin (q1.1 49 3) 24)
                (some (.inl (none, zw q1 b1 4 ((q1.1 b1 4) - (q1.1 52 (q1.1 49 3).toNatClampNeg))))))
            else if (M.1 50 (zrem (((M.1 49 3) + 24) - 1) 24).toNatClampNeg) = 1 then
            (zck (zin (zrem (((M.1 49 3) + 24) - 1) 24) 24)
              ((E.2.2 58 [.ref b1, .int (M.1 51 (zrem (((M.1 49 3) + 24) - 1) 24).toNatClampNeg), .int (M.1 52 (zrem (((M.1 49 3) + 24) - 1) 24).toNatClampNeg), .int 0] (zw (zw M 49 3 (zrem (((M.1 49 3) + 24) - 1) 24)) 49 4 ((M.1 49 4) - 1))).bind fun q2 =>
                some (.inl (none, q2))))
            else if (M.1 50 (zrem (((M.1 49 3) + 24) - 1) 24).toNatClampNeg) = 2 then
            (some (.inl (none, zw (zw (zw (zw M 49 3 (zrem (((M.1 49 3) + 24) - 1) 24)) 49 4 ((M.1 49 4) - 1)) b1 5 ((M.1 b1 5) ||| (zshl 1 (M.1 51 (zrem (((M.1 49 3) + 24) - 1) 24).toNatClampNeg)))) b1 6 ((M.1 b1 6) &&& ((zshl 1 (M.1 51 (zrem (((M.1 49 3) + 24) - 1) 24).toNatClampNeg)) ^^^ (-1))))))
            else if (M.1 50 (zrem (((M.1 49 3) + 24) - 1) 24).toNatClampNeg) = 3 then
            (zck (zin (zrem (((M.1 49 3) + 24) - 1) 24) 24)
              (zck (zin (M.1 51 (zrem (((M.1 49 3) + 24) - 1) 24).toNatClampNeg) 10)
                (some (.inl (none, zw (zw (zw M 49 3 (zrem (((M.1 49 3) + 24) - 1) 24)) 49 4 ((M.1 49 4) - 1)) (b1 + 3) (M.1 51 (zrem (((M.1 49 3) + 24) - 1) 24).toNatClampNeg).toNatClampNeg (M.1 52 (zrem (((M.1 49 3) + 24) - 1) 24).toNatClampNeg))))))
            else (zck (zin (zrem (((M.1 49 3) + 24) - 1) 24) 24)
              (some (.inl (none, zw (zw (zw M 49 3 (zrem (((M.1 49 3) + 24) - 1) 24)) 49 4 ((M.1 49 4) - 1)) b1 3 (M.1 52 (zrem (((M.1 49 3) + 24) - 1) 24).toNatClampNeg))))))) := by
  rcases hb1 with rfl | rfl <;> rfl
set_option maxRecDepth 100000 in
set_option maxHeartbeats 4000000 in
theorem e_X1_isAlso_0 (E : ZE) (M : ZM) (x0 : Int32) (x1 : Int32) : zrun E tb_X1_isAlso cu_X1_isAlso 2000 [] 0 [some (.int x0), some (.int x1), none, none] [] M =
  some (.inr (4, [none, some (.int x1), some (.int x0), some (.int 0)], [], M)) := rfl
set_option maxRecDepth 100000 in
set_option maxHeartbeats 4000000 in
theorem e_X1_isAlso_4 (E : ZE) (M : ZM) (x1 : Int32) (x2 : Int32) (x3 : Int32) : zrun E tb_X1_isAlso cu_X1_isAlso 2000 [] 4 [none, some (.int x1), some (.int x2), some (.int x3)] [] M =
  if 3 ≤ x3 then
  (some (.inl (some (.int 0), M)))
  else
  (if x2 = x1 then
    (some (.inl (some (.int 1), M)))
    else
    ((E.1 3 [.int x2] M).bind fun q1 =>
      some (.inr (4, [none, some (.int x1), some (.int q1.1), some (.int (x3 + 1))], [], q1.2)))) := rfl
set_option maxRecDepth 100000 in
set_option maxHeartbeats 4000000 in
theorem e_X1_above_0 (E : ZE) (M : ZM) (x0 : Int32) : zrun E tb_X1_above cu_X1_above 2000 [] 0 [some (.int x0)] [] M =
  if x0 < 0 then
  (some (.inl (some (.int 0), M)))
  else
  (if 6 ≤ x0 then
    (some (.inl (some (.int 0), M)))
    else
    (zck (zin x0 6)
      (some (.inl (some (.int (zABOVE.getD x0.toNatClampNeg 0)), M))))) := rfl
set_option maxRecDepth 100000 in
set_option maxHeartbeats 4000000 in
theorem e_X1_answer_0 (E : ZE) (M : ZM) (b1 : Nat) (hb1 : zsh b1) (x2 : Int32) (x3 : Int32) : zrun E tb_X1_answer cu_X1_answer 2000 [] 0 [some (.ref 61), some (.ref b1), some (.int x2), some (.int x3)] [] M =
  zck (zin x2 10)
    (zck (zin x2 10)
        ((E.1 5 [.ref 61, .int x3] (zw (zw (zw (zw (zw M 61 2 x2) 61 3 (M.1 (b1 + 2) x2.toNatClampNeg)) 61 4 (M.1 (b1 + 3) x2.toNatClampNeg)) 61 5 (M.1 b1 3)) 61 1 0)).bind fun q1 =>
                (E.1 7 [.ref 61, .int q1.1, .int 0] q1.2).bind fun q2 =>
                  some (.inl (some (.int q2.1), q2.2)))) := by
  rcases hb1 with rfl | rfl <;> rfl
set_option maxRecDepth 100000 in
set_option maxHeartbeats 4000000 in
theorem e_X1_bodyFor_0 (E : ZE) (M : ZM) (x1 : Int32) : zrun E tb_X1_bodyFor cu_X1_bodyFor 2000 [] 0 [some (.ref 61), some (.int x1), none, none, none] [] M =
  (E.1 6 [.int x1, .int (M.1 61 3)] M).bind fun q1 =>
  some (.inr (14, [none, some (.int x1), some (.int (M.1 61 3)), some (.int q1.1), some (.int 1)], [], q1.2)) := rfl
set_option maxRecDepth 100000 in
set_option maxHeartbeats 4000000 in
theorem e_X1_bodyFor_14 (E : ZE) (M : ZM) (x1 : Int32) (x2 : Int32) (x3 : Int32) (x4 : Int32) : zrun E tb_X1_bodyFor cu_X1_bodyFor 2000 [] 14 [none, some (.int x1), some (.int x2), some (.int x3), some (.int x4)] [] M =
  if 3 ≤ x4 then
  (some (.inl (some (.int x3), M)))
  else
  (if x3 = 0 then
    ((E.1 3 [.int x2] M).bind fun q1 =>
      (E.1 6 [.int x1, .int q1.1] q1.2).bind fun q2 =>
        some (.inr (14, [none, some (.int x1), some (.int q1.1), some (.int q2.1), some (.int (x4 + 1))], [], q2.2)))
    else
    (some (.inl (some (.int x3), M)))) := rfl
set_option maxRecDepth 100000 in
set_option maxHeartbeats 4000000 in
theorem e_X1_bodyTold_0 (E : ZE) (M : ZM) (x0 : Int32) (x1 : Int32) : zrun E tb_X1_bodyTold cu_X1_bodyTold 2000 [] 0 [some (.int x0), some (.int x1)] [] M =
  if x1 < 0 then
  (some (.inl (some (.int 0), M)))
  else
  (if x1 < 6 then
    (if x0 = 0 then
      (zck (zin x1 6)
        (some (.inl (some (.int (zSIZEB.getD x1.toNatClampNeg 0)), M))))
      else
      (zck (zin x1 6)
        (some (.inl (some (.int (zMARKB.getD x1.toNatClampNeg 0)), M)))))
    else
    (some (.inl (some (.int 0), M)))) := rfl
set_option maxRecDepth 100000 in
set_option maxHeartbeats 4000000 in
theorem e_X1_body_0 (E : ZE) (M : ZM) (x1 : Int32) (x2 : Int32) : zrun E tb_X1_body cu_X1_body 2000 [] 0 [some (.ref 61), some (.int x1), some (.int x2), none] [] M =
  if x2 ≤ 16 then
  ((E.2.2 8 [.ref 61, .int x1] M).bind fun q1 =>
    if x1 = 10 then
      (some (.inl (some (.int (q1.1 61 4)), q1)))
      else if x1 = 11 then
      ((E.1 7 [.ref 61, .int 10, .int (x2 + 1)] q1).bind fun q2 =>
        (E.1 5 [.ref 61, .int 1] q2.2).bind fun q3 =>
          (E.1 7 [.ref 61, .int q3.1, .int (x2 + 1)] q3.2).bind fun q4 =>
            some (.inl (some (.int (q2.1 + q4.1)), q4.2)))
      else if x1 = 12 then
      ((E.1 7 [.ref 61, .int 11, .int (x2 + 1)] q1).bind fun q5 =>
        some (.inl (some (.int (-q5.1)), q5.2)))
      else if x1 = 13 then
      ((E.1 7 [.ref 61, .int 10, .int (x2 + 1)] q1).bind fun q6 =>
        some (.inl (some (.int (q6.1 - 100)), q6.2)))
      else if x1 = 14 then
      ((E.1 7 [.ref 61, .int 13, .int (x2 + 1)] q1).bind fun q7 =>
        some (.inl (some (.int (2 * q7.1)), q7.2)))
      else if x1 = 15 then
      (some (.inl (some (.int 0), q1)))
      else if x1 = 16 then
      (some (.inl (some (.int 0), q1)))
      else if x1 = 17 then
      (some (.inl (some (.int 0), q1)))
      else if x1 = 18 then
      (some (.inl (some (.int 0), q1)))
      else if x1 = 19 then
      (some (.inl (some (.int 0), q1)))
      else if x1 = 20 then
      (some (.inl (some (.int (q1.1 61 2)), q1)))
      else if x1 = 21 then
      ((E.1 7 [.ref 61, .int 20, .int (x2 + 1)] q1).bind fun q8 =>
        some (.inl (some (.int (q8.1 + (q8.2.1 61 5))), q8.2)))
      else if x1 = 22 then
      ((E.1 7 [.ref 61, .int 21, .int (x2 + 1)] q1).bind fun q9 =>
        some (.inl (some (.int (q9.1 - 1000)), q9.2)))
      else if x1 = 23 then
      ((E.1 7 [.ref 61, .int 20, .int (x2 + 1)] q1).bind fun q10 =>
        (E.1 5 [.ref 61, .int 0] q10.2).bind fun q11 =>
          (E.1 7 [.ref 61, .int q11.1, .int (x2 + 1)] q11.2).bind fun q12 =>
            some (.inl (some (.int (q10.1 - q12.1)), q12.2)))
      else if x1 = 24 then
      ((E.1 7 [.ref 61, .int 21, .int (x2 + 1)] q1).bind fun q13 =>
        some (.inl (some (.int (2 * q13.1)), q13.2)))
      else (some (.inl (some (.int 0), q1))))
  else
  (some (.inl (some (.int 0), M))) := rfl
set_option maxRecDepth 100000 in
set_option maxHeartbeats 4000000 in
theorem e_X1_leave_0 (E : ZE) (M : ZM) (x1 : Int32) : zrun E tb_X1_leave cu_X1_leave 2000 [] 0 [some (.ref 61), some (.int x1)] [] M =
  if 16 ≤ (M.1 61 1) then
  (some (.inl (none, M)))
  else
  (zck (zin (M.1 61 1) 16)
    (some (.inl (none, zw (zw M 62 (M.1 61 1).toNatClampNeg x1) 61 1 ((M.1 61 1) + 1))))) := rfl
set_option maxRecDepth 100000 in
set_option maxHeartbeats 4000000 in
theorem e_X3_append_0 (E : ZE) (M : ZM) (x1 : Int32) : zrun E tb_X3_append cu_X3_append 2000 [] 0 [some (.ref 18), some (.int x1)] [] M =
  if (M.1 18 1) < 120 then
  (zck (zin (M.1 18 1) 120)
    (some (.inl (some (.int 1), zw (zw M 19 (M.1 18 1).toNatClampNeg x1) 18 1 ((M.1 18 1) + 1)))))
  else
  (some (.inl (some (.int 0), M))) := rfl
set_option maxRecDepth 100000 in
set_option maxHeartbeats 4000000 in
theorem e_X3_read_0 (E : ZE) (M : ZM) (b1 : Nat) (hb1 : zsh b1) : zrun E tb_X3_read cu_X3_read 2000 [] 0 [some (.ref 18), some (.ref b1), none] [] M =
  (E.2.2 47 [.ref 18] (zw M 18 2 0)).bind fun q1 =>
    (E.1 40 [.ref 18, .ref b1] q1).bind fun q2 =>
      if q2.1 = 0 then
        (some (.inl (some (.int 0), zw q2.2 18 1 0)))
        else
        ((E.1 41 [.ref 18, .ref b1] q2.2).bind fun q3 =>
          if q3.1 = 0 then
            (some (.inl (some (.int 0), zw q3.2 18 1 0)))
            else
            ((E.1 42 [.ref 18, .ref b1] q3.2).bind fun q4 =>
              if q4.1 = 0 then
                (some (.inl (some (.int 0), zw q4.2 18 1 0)))
                else
                (some (.inl (some (.int 1), zw q4.2 18 1 0))))) := by
  rcases hb1 with rfl | rfl <;> rfl
set_option maxRecDepth 100000 in
set_option maxHeartbeats 4000000 in
theorem e_X3_readLaw_0 (E : ZE) (M : ZM) (b1 : Nat) (hb1 : zsh b1) : zrun E tb_X3_readLaw cu_X3_readLaw 2000 [] 0 [some (.ref 18), some (.ref b1), none, none, none] [] M =
  (E.1 44 [.ref 18, .int 119] M).bind fun q1 =>
  if q1.1 = 0 then
    (some (.inl (some (.int 0), q1.2)))
    else
    ((E.1 45 [.ref 18, .int 1, .int 6] q1.2).bind fun q2 =>
      if q2.1 < 1 then
        (some (.inl (some (.int 0), q2.2)))
        else
        ((E.1 44 [.ref 18, .int 44] q2.2).bind fun q3 =>
          if q3.1 = 0 then
            (some (.inl (some (.int 0), q3.2)))
            else
            (zck (!(decide (q2.1 = 0)))
              ((E.1 235 [.int 6, .int (10 / q2.1)] q3.2).bind fun q4 =>
                (E.1 45 [.ref 18, .int 1, .int q4.1] q4.2).bind fun q5 =>
                  if q5.1 < 1 then
                    (some (.inl (some (.int 0), q5.2)))
                    else
                    ((E.1 44 [.ref 18, .int 44] q5.2).bind fun q6 =>
                      if q6.1 = 0 then
                        (some (.inl (some (.int 0), q6.2)))
                        else
                        ((E.1 45 [.ref 18, .int 0, .int 9] q6.2).bind fun q7 =>
                          if q7.1 < 0 then
                            (some (.inl (some (.int 0), q7.2)))
                            else
                            ((E.1 44 [.ref 18, .int 59] q7.2).bind fun q8 =>
                              if q8.1 = 0 then
                                (some (.inl (some (.int 0), q8.2)))
                                else
                                ((E.2.2 53 [.ref b1, .int q2.1, .int q5.1, .int q7.1] q8.2).bind fun q9 =>
                                  some (.inl (some (.int 1), q9)))))))))) := by
  rcases hb1 with rfl | rfl <;> rfl
set_option maxRecDepth 100000 in
set_option maxHeartbeats 4000000 in
theorem e_X3_readStamps_0 (E : ZE) (M : ZM) (b1 : Nat) (hb1 : zsh b1) : zrun E tb_X3_readStamps cu_X3_readStamps 2000 [] 0 [some (.ref 18), some (.ref b1), none, none, none] [] M =
  some (.inr (2, [some (.ref 18), some (.ref b1), some (.int 0), none, none], [], M)) := by
  rcases hb1 with rfl | rfl <;> rfl
set_option maxRecDepth 100000 in
set_option maxHeartbeats 4000000 in
theorem e_X3_readStamps_2 (E : ZE) (M : ZM) (b1 : Nat) (hb1 : zsh b1) (x2 : Int32) : zrun E tb_X3_readStamps cu_X3_readStamps 2000 [] 2 [some (.ref 18), some (.ref b1), some (.int x2), none, none] [] M =
  if (M.1 b1 1) ≤ x2 then
  ((E.1 43 [.ref 18] M).bind fun q1 =>
    if q1.1 = 0 then
      (some (.inl (some (.int 1), q1.2)))
      else
      ((E.1 46 [.ref 18, .int 3] q1.2).bind fun q2 =>
        if q2.1 = 0 then
          (some (.inl (some (.int 0), q2.2)))
          else
          (some (.inl (some (.int 1), q2.2)))))
  else
  ((E.1 43 [.ref 18] M).bind fun q3 =>
    if q3.1 = 0 then
      ((E.1 46 [.ref 18, .int 1] q3.2).bind fun q8 =>
        zck (zb01 q8.1)
          (some (.inl (some (.int q8.1), q8.2))))
      else
      ((E.2.2 47 [.ref 18] q3.2).bind fun q4 =>
        (E.1 45 [.ref 18, .int 0, .int 9] q4).bind fun q5 =>
          if q5.1 < 0 then
            (some (.inl (some (.int 0), q5.2)))
            else
            ((E.1 44 [.ref 18, .int 59] q5.2).bind fun q6 =>
              if q6.1 = 0 then
                (some (.inl (some (.int 0), q6.2)))
                else
                ((E.2.2 55 [.ref b1, .int x2, .int q3.1, .int q5.1] q6.2).bind fun q7 =>
                  some (.inr (2, [some (.ref 18), some (.ref b1), some (.int (x2 + 1)), none, none], [], q7)))))) := by
  rcases hb1 with rfl | rfl <;> rfl
set_option maxRecDepth 100000 in
set_option maxHeartbeats 4000000 in
theorem e_X3_readCustomers_0 (E : ZE) (M : ZM) (b1 : Nat) (hb1 : zsh b1) : zrun E tb_X3_readCustomers cu_X3_readCustomers 2000 [] 0 [some (.ref 18), some (.ref b1), none, none, none] [] M =
  some (.inr (2, [some (.ref 18), some (.ref b1), some (.int 0), none, none], [], M)) := by
  rcases hb1 with rfl | rfl <;> rfl
set_option maxRecDepth 100000 in
set_option maxHeartbeats 4000000 in
theorem e_X3_readCustomers_2 (E : ZE) (M : ZM) (b1 : Nat) (hb1 : zsh b1) (x2 : Int32) : zrun E tb_X3_readCustomers cu_X3_readCustomers 2000 [] 2 [some (.ref 18), some (.ref b1), some (.int x2), none, none] [] M =
  if 5 ≤ x2 then
  (if (M.1 18 4) = 110 then
    ((E.1 46 [.ref 18, .int 3] M).bind fun q2 =>
      zck (zb01 q2.1)
        (some (.inl (some (.int q2.1), q2.2))))
    else
    (if (M.1 18 4) = (-1) then
      (some (.inl (some (.int 1), M)))
      else
      ((E.1 46 [.ref 18, .int 1] M).bind fun q1 =>
        if q1.1 = 0 then
          (some (.inl (some (.int 0), q1.2)))
          else
          (some (.inl (some (.int 1), q1.2))))))
  else
  (if (M.1 18 4) = 110 then
    ((E.2.2 47 [.ref 18] M).bind fun q5 =>
      (E.1 45 [.ref 18, .int 0, .int 99] q5).bind fun q6 =>
        if q6.1 < 0 then
          (some (.inl (some (.int 0), q6.2)))
          else
          ((E.1 44 [.ref 18, .int 44] q6.2).bind fun q7 =>
            if q7.1 = 0 then
              (some (.inl (some (.int 0), q7.2)))
              else
              ((E.1 45 [.ref 18, .int q6.1, .int 99] q7.2).bind fun q8 =>
                if q8.1 < 0 then
                  (some (.inl (some (.int 0), q8.2)))
                  else
                  ((E.1 44 [.ref 18, .int 59] q8.2).bind fun q9 =>
                    if q9.1 = 0 then
                      (some (.inl (some (.int 0), q9.2)))
                      else
                      ((E.2.2 56 [.ref b1, .int q6.1, .int q8.1] q9.2).bind fun q10 =>
                        some (.inr (2, [some (.ref 18), some (.ref b1), some (.int (x2 + 1)), none, none], [], q10)))))))
    else
    (if (M.1 18 4) = 110 then
      ((E.1 46 [.ref 18, .int 3] M).bind fun q4 =>
        zck (zb01 q4.1)
          (some (.inl (some (.int q4.1), q4.2))))
      else
      (if (M.1 18 4) = (-1) then
        (some (.inl (some (.int 1), M)))
        else
        ((E.1 46 [.ref 18, .int 1] M).bind fun q3 =>
          if q3.1 = 0 then
            (some (.inl (some (.int 0), q3.2)))
            else
            (some (.inl (some (.int 1), q3.2))))))) := by
  rcases hb1 with rfl | rfl <;> rfl
set_option maxRecDepth 100000 in
set_option maxHeartbeats 4000000 in
theorem e_X3_kindOfSort_0 (E : ZE) (M : ZM) : zrun E tb_X3_kindOfSort cu_X3_kindOfSort 2000 [] 0 [some (.ref 18)] [] M =
  if (M.1 18 4) = 97 then
  (some (.inl (some (.int 4), M)))
  else if (M.1 18 4) = 100 then
  (some (.inl (some (.int 3), M)))
  else if (M.1 18 4) = 101 then
  (some (.inl (some (.int 5), M)))
  else if (M.1 18 4) = 111 then
  (some (.inl (some (.int 1), M)))
  else if (M.1 18 4) = 117 then
  (some (.inl (some (.int 2), M)))
  else (some (.inl (some (.int 0), M))) := rfl
set_option maxRecDepth 100000 in
set_option maxHeartbeats 4000000 in
theorem e_X3_takes_0 (E : ZE) (M : ZM) (x1 : Int32) : zrun E tb_X3_takes cu_X3_takes 2000 [] 0 [some (.ref 18), some (.int x1)] [] M =
  if (M.1 18 4) = x1 then
  ((E.2.2 47 [.ref 18] M).bind fun q1 =>
    some (.inl (some (.int 1), q1)))
  else
  ((E.1 46 [.ref 18, .int 1] M).bind fun q2 =>
    zck (zb01 q2.1)
      (some (.inl (some (.int q2.1), q2.2)))) := rfl
set_option maxRecDepth 100000 in
set_option maxHeartbeats 4000000 in
theorem e_X3_takeNumber_0 (E : ZE) (M : ZM) (x1 : Int32) (x2 : Int32) : zrun E tb_X3_takeNumber cu_X3_takeNumber 2000 [] 0 [some (.ref 18), some (.int x1), some (.int x2), none] [] M =
  if (M.1 18 4) = 0 then
  (if (M.1 18 5) < x1 then
    ((E.1 46 [.ref 18, .int 2] M).bind fun q1 =>
      some (.inl (some (.int (-1)), q1.2)))
    else
    (if (M.1 18 5) ≤ x2 then
      ((E.2.2 47 [.ref 18] M).bind fun q2 =>
        some (.inl (some (.int (M.1 18 5)), q2)))
      else
      ((E.1 46 [.ref 18, .int 2] M).bind fun q3 =>
        some (.inl (some (.int (-1)), q3.2)))))
  else
  ((E.1 46 [.ref 18, .int 1] M).bind fun q4 =>
    some (.inl (some (.int (-1)), q4.2))) := rfl
set_option maxRecDepth 100000 in
set_option maxHeartbeats 4000000 in
theorem e_X3_refuse_0 (E : ZE) (M : ZM) (x1 : Int32) : zrun E tb_X3_refuse cu_X3_refuse 2000 [] 0 [some (.ref 18), some (.int x1)] [] M =
  some (.inl (some (.int 0), zw M 18 6 x1)) := rfl
set_option maxRecDepth 100000 in
set_option maxHeartbeats 4000000 in
theorem e_X3_step_0 (E : ZE) (M : ZM) : zrun E tb_X3_step cu_X3_step 2000 [] 0 [some (.ref 18), none] [] M =
  if (M.1 18 2) < (M.1 18 1) then
    (zck (zin (M.1 18 2) 120)
      ((E.1 49 [.int (M.1 19 (M.1 18 2).toNatClampNeg)] (zw M 18 3 (M.1 18 2))).bind fun q1 =>
        if q1.1 = 0 then
          (if (M.1 19 (M.1 18 2).toNatClampNeg) < 97 then
              (if (M.1 19 (M.1 18 2).toNatClampNeg) = 44 then
                (some (.inl (none, zw (zw q1.2 18 2 ((q1.2.1 18 2) + 1)) 18 4 (M.1 19 (M.1 18 2).toNatClampNeg))))
                else
                (if (M.1 19 (M.1 18 2).toNatClampNeg) = 59 then
                  (some (.inl (none, zw (zw q1.2 18 2 ((q1.2.1 18 2) + 1)) 18 4 (M.1 19 (M.1 18 2).toNatClampNeg))))
                  else
                  (some (.inl (none, zw (zw q1.2 18 2 ((q1.2.1 18 2) + 1)) 18 4 (-2))))))
              else
              (if (M.1 19 (M.1 18 2).toNatClampNeg) ≤ 122 then
                (some (.inl (none, zw (zw q1.2 18 2 ((q1.2.1 18 2) + 1)) 18 4 (M.1 19 (M.1 18 2).toNatClampNeg))))
                else
                (if (M.1 19 (M.1 18 2).toNatClampNeg) = 44 then
                  (some (.inl (none, zw (zw q1.2 18 2 ((q1.2.1 18 2) + 1)) 18 4 (M.1 19 (M.1 18 2).toNatClampNeg))))
                  else
                  (if (M.1 19 (M.1 18 2).toNatClampNeg) = 59 then
                    (some (.inl (none, zw (zw q1.2 18 2 ((q1.2.1 18 2) + 1)) 18 4 (M.1 19 (M.1 18 2).toNatClampNeg))))
                    else
                    (some (.inl (none, zw (zw q1.2 18 2 ((q1.2.1 18 2) + 1)) 18 4 (-2))))))))
          else
          ((E.2.2 48 [.ref 18] q1.2).bind fun q2 =>
            some (.inl (none, q2)))))
    else
    (some (.inl (none, zw (zw M 18 3 (M.1 18 2)) 18 4 (-1)))) := rfl
set_option maxRecDepth 100000 in
set_option maxHeartbeats 4000000 in
theorem e_X3_stepOverNumber_0 (E : ZE) (M : ZM) : zrun E tb_X3_stepOverNumber cu_X3_stepOverNumber 2000 [] 0 [some (.ref 18)] [] M =
  some (.inr (5, [some (.ref 18)], [], zw M 18 5 0)) := rfl
set_option maxRecDepth 100000 in
set_option maxHeartbeats 4000000 in
theorem e_X3_stepOverNumber_5 (E : ZE) (M : ZM) : zrun E tb_X3_stepOverNumber cu_X3_stepOverNumber 2000 [] 5 [some (.ref 18)] [] M =
  if (M.1 18 1) ≤ (M.1 18 2) then
  (if 2 < ((M.1 18 2) - (M.1 18 3)) then
    (some (.inl (none, zw M 18 4 (-2))))
    else
    (some (.inl (none, zw M 18 4 0))))
  else
  (zck (zin (M.1 18 2) 120)
    ((E.1 49 [.int (M.1 19 (M.1 18 2).toNatClampNeg)] M).bind fun q1 =>
      if q1.1 = 0 then
        (if 2 < ((q1.2.1 18 2) - (q1.2.1 18 3)) then
          (some (.inl (none, zw q1.2 18 4 (-2))))
          else
          (some (.inl (none, zw q1.2 18 4 0))))
        else
        (zck (zin (q1.2.1 18 2) 120)
          (some (.inr (5, [some (.ref 18)], [], zw (zw q1.2 18 5 (((10 * (q1.2.1 18 5)) + (q1.2.1 19 (q1.2.1 18 2).toNatClampNeg)) - 48)) 18 2 ((q1.2.1 18 2) + 1))))))) := rfl
set_option maxRecDepth 100000 in
set_option maxHeartbeats 4000000 in
theorem e_X3_isFigureSign_0 (E : ZE) (M : ZM) (x0 : Int32) : zrun E tb_X3_isFigureSign cu_X3_isFigureSign 2000 [] 0 [some (.int x0)] [] M =
  if x0 < 48 then
  (some (.inl (some (.int 0), M)))
  else
  (if 57 < x0 then
    (some (.inl (some (.int 0), M)))
    else
    (some (.inl (some (.int 1), M)))) := rfl
set_option maxRecDepth 100000 in
set_option maxHeartbeats 4000000 in
theorem e_X4_begin_0 (E : ZE) (M : ZM) (b : Nat) (hb : zrw b) (x1 : Int32) (x2 : Int32) : zrun E tb_X4_begin cu_X4_begin 2000 [] 0 [some (.ref b), some (.int x1), some (.int x2)] [] M =
  (E.2.2 237 [.ref (b + 8), .int 0] (zw (zw (zw M b 1 1) b 2 x1) b 3 x2)).bind fun q1 =>
        some (.inl (none, q1)) := by
  rcases hb with rfl | rfl | rfl | rfl | rfl | rfl | rfl | rfl <;> rfl
set_option maxRecDepth 100000 in
set_option maxHeartbeats 4000000 in
theorem e_X4_reaches_0 (E : ZE) (M : ZM) (b : Nat) (hb : zrw b) (x1 : Int32) (x2 : Int32) : zrun E tb_X4_reaches cu_X4_reaches 2000 [] 0 [some (.ref b), some (.int x1), some (.int x2)] [] M =
  if x1 < 0 then
  (some (.inl (some (.int 0), M)))
  else
  (if x2 < 0 then
    (some (.inl (some (.int 0), M)))
    else
    (if (M.1 b 3) < x1 then
      (some (.inl (some (.int 0), M)))
      else
      (if ((M.1 b 3) - x1) < x2 then
        (some (.inl (some (.int 0), M)))
        else
        (some (.inl (some (.int 1), M)))))) := by
  rcases hb with rfl | rfl | rfl | rfl | rfl | rfl | rfl | rfl <;> rfl
set_option maxRecDepth 100000 in
set_option maxHeartbeats 4000000 in
theorem e_X4_put_0 (E : ZE) (M : ZM) (b : Nat) (hb : zrw b) (x1 : Int32) (x2 : Int32) : zrun E tb_X4_put cu_X4_put 2000 [] 0 [some (.ref b), some (.int x1), some (.int x2)] [] M =
  if (M.1 b 2) = 0 then
  (zck (zin x1 40)
    (zck (zin x1 40)
      (some (.inl (some (.int ((zw M (b + 8) x1.toNatClampNeg x2.toInt8.toInt32).1 (b + 8) x1.toNatClampNeg)), zw M (b + 8) x1.toNatClampNeg x2.toInt8.toInt32)))))
  else
  (if (M.1 b 2) = 1 then
    (zck (zin x1 40)
      (zck (zin x1 40)
        (some (.inl (some (.int ((zw M (b + 8) x1.toNatClampNeg x2.toInt16.toInt32).1 (b + 8) x1.toNatClampNeg)), zw M (b + 8) x1.toNatClampNeg x2.toInt16.toInt32)))))
    else
    (zck (zin x1 40)
      (zck (zin x1 40)
        (some (.inl (some (.int ((zw M (b + 8) x1.toNatClampNeg x2).1 (b + 8) x1.toNatClampNeg)), zw M (b + 8) x1.toNatClampNeg x2)))))) := by
  rcases hb with rfl | rfl | rfl | rfl | rfl | rfl | rfl | rfl <;> rfl
set_option maxRecDepth 100000 in
set_option maxHeartbeats 4000000 in
theorem e_X6_takeCells_0 (E : ZE) (M : ZM) (b1 : Nat) (hb1 : zrw b1) (x2 : Int32) (x3 : Int32) (x4 : Int32) : zrun E tb_X6_takeCells cu_X6_takeCells 2000 [] 0 [some (.ref 63), some (.ref b1), some (.int x2), some (.int x3), some (.int x4), none, none, none] [] M =
  some (.inr (11, [some (.ref 63), some (.ref b1), some (.int x2), some (.int x3), some (.int x4), some (.int 0), some (.int 0), none], [], zw M 63 2 0)) := by
  rcases hb1 with rfl | rfl | rfl | rfl | rfl | rfl | rfl | rfl <;> rfl
set_option maxRecDepth 100000 in
set_option maxHeartbeats 4000000 in
theorem e_X6_takeCells_11 (E : ZE) (M : ZM) (b1 : Nat) (hb1 : zrw b1) (x2 : Int32) (x3 : Int32) (x4 : Int32) (x5 : Int32) (x6 : Int32) : zrun E tb_X6_takeCells cu_X6_takeCells 2000 [] 11 [some (.ref 63), some (.ref b1), some (.int x2), some (.int x3), some (.int x4), some (.int x5), some (.int x6), none] [] M =
  if x3 ≤ x6 then
  (some (.inl (some (.int 1), M)))
  else
  (if 10 ≤ x6 then
    (some (.inl (some (.int 1), M)))
    else
    (zck (zin (x2 + x6) 40)
      (if (M.1 (b1 + 8) (x2 + x6).toNatClampNeg) < 0 then
        (some (.inl (some (.int 0), M)))
        else
        (if x4 ≤ (M.1 (b1 + 8) (x2 + x6).toNatClampNeg) then
          (some (.inl (some (.int 0), M)))
          else
          (if ((zshr x5 (M.1 (b1 + 8) (x2 + x6).toNatClampNeg)) &&& 1) = 0 then
            (zck (zin x6 10)
              (some (.inr (11, [some (.ref 63), some (.ref b1), some (.int x2), some (.int x3), some (.int x4), some (.int (x5 ||| (zshl 1 (M.1 (b1 + 8) (x2 + x6).toNatClampNeg)))), some (.int (x6 + 1)), none], [], zw (zw M 64 x6.toNatClampNeg (M.1 (b1 + 8) (x2 + x6).toNatClampNeg)) 63 2 (x6 + 1)))))
            else
            (some (.inl (some (.int 0), M)))))))) := by
  rcases hb1 with rfl | rfl | rfl | rfl | rfl | rfl | rfl | rfl <;> rfl
set_option maxRecDepth 100000 in
set_option maxHeartbeats 4000000 in
theorem e_X6_takePays_0 (E : ZE) (M : ZM) (b1 : Nat) (hb1 : zrw b1) (x2 : Int32) : zrun E tb_X6_takePays cu_X6_takePays 2000 [] 0 [some (.ref 63), some (.ref b1), some (.int x2), none] [] M =
  some (.inr (2, [some (.ref 63), some (.ref b1), some (.int x2), some (.int 0)], [], M)) := by
  rcases hb1 with rfl | rfl | rfl | rfl | rfl | rfl | rfl | rfl <;> rfl
set_option maxRecDepth 100000 in
set_option maxHeartbeats 4000000 in
theorem e_X6_takePays_2 (E : ZE) (M : ZM) (b1 : Nat) (hb1 : zrw b1) (x2 : Int32) (x3 : Int32) : zrun E tb_X6_takePays cu_X6_takePays 2000 [] 2 [some (.ref 63), some (.ref b1), some (.int x2), some (.int x3)] [] M =
  if (M.1 63 2) ≤ x3 then
  (some (.inl (none, M)))
  else
  (zck (zin (x2 + x3) 40)
    (zck (zin x3 10)
      (some (.inr (2, [some (.ref 63), some (.ref b1), some (.int x2), some (.int (x3 + 1))], [], zw M 65 x3.toNatClampNeg (M.1 (b1 + 8) (x2 + x3).toNatClampNeg)))))) := by
  rcases hb1 with rfl | rfl | rfl | rfl | rfl | rfl | rfl | rfl <;> rfl
set_option maxRecDepth 100000 in
set_option maxHeartbeats 4000000 in
theorem e_X6_isSo_0 (E : ZE) (M : ZM) (b1 : Nat) (hb1 : zsh b1) : zrun E tb_X6_isSo cu_X6_isSo 2000 [] 0 [some (.ref 63), some (.ref b1), none, none] [] M =
  some (.inr (4, [some (.ref 63), some (.ref b1), some (.int 0), some (.int 0)], [], M)) := by
  rcases hb1 with rfl | rfl <;> rfl
set_option maxRecDepth 100000 in
set_option maxHeartbeats 4000000 in
theorem e_X6_isSo_4 (E : ZE) (M : ZM) (b1 : Nat) (hb1 : zsh b1) (x2 : Int32) (x3 : Int32) : zrun E tb_X6_isSo cu_X6_isSo 2000 [] 4 [some (.ref 63), some (.ref b1), some (.int x2), some (.int x3)] [] M =
  if (M.1 63 2) ≤ x3 then
  (some (.inl (some (.int 1), M)))
  else
  (zck (zin x3 10)
    ((E.1 68 [.ref b1, .int (x2 ||| (zshl 1 (M.1 64 x3.toNatClampNeg)))] M).bind fun q1 =>
      zck (zin x3 10)
        (if q1.1 = (q1.2.1 65 x3.toNatClampNeg) then
          (some (.inr (4, [some (.ref 63), some (.ref b1), some (.int (x2 ||| (zshl 1 (M.1 64 x3.toNatClampNeg)))), some (.int (x3 + 1))], [], q1.2)))
          else
          (some (.inl (some (.int 0), q1.2)))))) := by
  rcases hb1 with rfl | rfl <;> rfl
set_option maxRecDepth 100000 in
set_option maxHeartbeats 4000000 in
theorem e_J6_lowestOneBit_0f7a4_0 (E : ZE) (M : ZM) (x0 : Int32) : zrun E tb_J6_lowestOneBit_0f7a4 cu_J6_lowestOneBit_0f7a4 2000 [] 0 [some (.int x0)] [] M =
  some (.inl (some (.int (x0 &&& (-x0))), M)) := rfl
set_option maxRecDepth 100000 in
set_option maxHeartbeats 4000000 in
theorem e_J6_numberOfTrailingZeros_0f7a4_0 (E : ZE) (M : ZM) (x0 : Int32) : zrun E tb_J6_numberOfTrailingZeros_0f7a4 cu2_J6_numberOfTrailingZeros_0f7a4 2000 [] 0 [some (.int x0), none] [] M =
  some (.inr (8, [some (.int ((x0 ^^^ (-1)) &&& (x0 - 1))), none], [], M)) := rfl
set_option maxRecDepth 100000 in
set_option maxHeartbeats 4000000 in
theorem e_J6_numberOfTrailingZeros_0f7a4_8 (E : ZE) (M : ZM) (x0 : Int32) : zrun E tb_J6_numberOfTrailingZeros_0f7a4 cu2_J6_numberOfTrailingZeros_0f7a4 2000 [] 8 [some (.int x0), none] [] M =
  if 0 < x0 then
  (some (.inr (17, [some (.int x0), none], [], M)))
  else
  (some (.inl (some (.int (x0 &&& 32)), M))) := rfl
set_option maxRecDepth 100000 in
set_option maxHeartbeats 4000000 in
theorem e_J6_numberOfTrailingZeros_0f7a4_17 (E : ZE) (M : ZM) (x0 : Int32) : zrun E tb_J6_numberOfTrailingZeros_0f7a4 cu2_J6_numberOfTrailingZeros_0f7a4 2000 [] 17 [some (.int x0), none] [] M =
  if x0 ≤ 65536 then
  (some (.inr (34, [some (.int x0), some (.int 1)], [], M)))
  else
  (some (.inr (34, [some (.int (zushr x0 16)), some (.int (1 + 16))], [], M))) := rfl
set_option maxRecDepth 100000 in
set_option maxHeartbeats 4000000 in
theorem e_J6_numberOfTrailingZeros_0f7a4_34 (E : ZE) (M : ZM) (x0 : Int32) (x1 : Int32) : zrun E tb_J6_numberOfTrailingZeros_0f7a4 cu2_J6_numberOfTrailingZeros_0f7a4 2000 [] 34 [some (.int x0), some (.int x1)] [] M =
  if x0 ≤ 256 then
  (some (.inr (49, [some (.int x0), some (.int x1)], [], M)))
  else
  (some (.inr (49, [some (.int (zushr x0 8)), some (.int (x1 + 8))], [], M))) := rfl
set_option maxRecDepth 100000 in
set_option maxHeartbeats 4000000 in
theorem e_J6_numberOfTrailingZeros_0f7a4_49 (E : ZE) (M : ZM) (x0 : Int32) (x1 : Int32) : zrun E tb_J6_numberOfTrailingZeros_0f7a4 cu2_J6_numberOfTrailingZeros_0f7a4 2000 [] 49 [some (.int x0), some (.int x1)] [] M =
  if x0 ≤ 16 then
  (some (.inr (62, [some (.int x0), some (.int x1)], [], M)))
  else
  (some (.inr (62, [some (.int (zushr x0 4)), some (.int (x1 + 4))], [], M))) := rfl
set_option maxRecDepth 100000 in
set_option maxHeartbeats 4000000 in
theorem e_J6_numberOfTrailingZeros_0f7a4_62 (E : ZE) (M : ZM) (x0 : Int32) (x1 : Int32) : zrun E tb_J6_numberOfTrailingZeros_0f7a4 cu2_J6_numberOfTrailingZeros_0f7a4 2000 [] 62 [some (.int x0), some (.int x1)] [] M =
  if x0 ≤ 4 then
  (some (.inr (74, [some (.int x0), some (.int x1)], [], M)))
  else
  (some (.inr (74, [some (.int (zushr x0 2)), some (.int (x1 + 2))], [], M))) := rfl
set_option maxRecDepth 100000 in
set_option maxHeartbeats 4000000 in
theorem e_J6_numberOfTrailingZeros_0f7a4_74 (E : ZE) (M : ZM) (x0 : Int32) (x1 : Int32) : zrun E tb_J6_numberOfTrailingZeros_0f7a4 cu2_J6_numberOfTrailingZeros_0f7a4 2000 [] 74 [some (.int x0), some (.int x1)] [] M =
  some (.inl (some (.int (x1 + (zushr x0 1))), M)) := rfl
set_option maxRecDepth 100000 in
set_option maxHeartbeats 4000000 in
theorem e_J6_bitCount_0f7a4_0 (E : ZE) (M : ZM) (x0 : Int32) : zrun E tb_J6_bitCount_0f7a4 cu2_J6_bitCount_0f7a4 2000 [] 0 [some (.int x0)] [] M =
  some (.inr (10, [some (.int (x0 - ((zushr x0 1) &&& 1431655765)))], [], M)) := rfl
set_option maxRecDepth 100000 in
set_option maxHeartbeats 4000000 in
theorem e_J6_bitCount_0f7a4_10 (E : ZE) (M : ZM) (x0 : Int32) : zrun E tb_J6_bitCount_0f7a4 cu2_J6_bitCount_0f7a4 2000 [] 10 [some (.int x0)] [] M =
  some (.inr (24, [some (.int ((x0 &&& 858993459) + ((zushr x0 2) &&& 858993459)))], [], M)) := rfl
set_option maxRecDepth 100000 in
set_option maxHeartbeats 4000000 in
theorem e_J6_bitCount_0f7a4_24 (E : ZE) (M : ZM) (x0 : Int32) : zrun E tb_J6_bitCount_0f7a4 cu2_J6_bitCount_0f7a4 2000 [] 24 [some (.int x0)] [] M =
  some (.inr (34, [some (.int ((x0 + (zushr x0 4)) &&& 252645135))], [], M)) := rfl
set_option maxRecDepth 100000 in
set_option maxHeartbeats 4000000 in
theorem e_J6_bitCount_0f7a4_34 (E : ZE) (M : ZM) (x0 : Int32) : zrun E tb_J6_bitCount_0f7a4 cu2_J6_bitCount_0f7a4 2000 [] 34 [some (.int x0)] [] M =
  some (.inr (41, [some (.int (x0 + (zushr x0 8)))], [], M)) := rfl
set_option maxRecDepth 100000 in
set_option maxHeartbeats 4000000 in
theorem e_J6_bitCount_0f7a4_41 (E : ZE) (M : ZM) (x0 : Int32) : zrun E tb_J6_bitCount_0f7a4 cu2_J6_bitCount_0f7a4 2000 [] 41 [some (.int x0)] [] M =
  some (.inr (48, [some (.int (x0 + (zushr x0 16)))], [], M)) := rfl
set_option maxRecDepth 100000 in
set_option maxHeartbeats 4000000 in
theorem e_J6_bitCount_0f7a4_48 (E : ZE) (M : ZM) (x0 : Int32) : zrun E tb_J6_bitCount_0f7a4 cu2_J6_bitCount_0f7a4 2000 [] 48 [some (.int x0)] [] M =
  some (.inl (some (.int (x0 &&& 63)), M)) := rfl
set_option maxRecDepth 100000 in
set_option maxHeartbeats 4000000 in
theorem e_J9_max_7cf53_0 (E : ZE) (M : ZM) (x0 : Int32) (x1 : Int32) : zrun E tb_J9_max_7cf53 cu_J9_max_7cf53 2000 [] 0 [some (.int x0), some (.int x1)] [] M =
  if x0 < x1 then
  (some (.inl (some (.int x1), M)))
  else
  (some (.inl (some (.int x0), M))) := rfl
set_option maxRecDepth 100000 in
set_option maxHeartbeats 4000000 in
theorem e_J9_min_7cf53_0 (E : ZE) (M : ZM) (x0 : Int32) (x1 : Int32) : zrun E tb_J9_min_7cf53 cu_J9_min_7cf53 2000 [] 0 [some (.int x0), some (.int x1)] [] M =
  if x1 < x0 then
  (some (.inl (some (.int x1), M)))
  else
  (some (.inl (some (.int x0), M))) := rfl
set_option maxRecDepth 100000 in
set_option maxHeartbeats 4000000 in
theorem e_J7_fill_d0a16_0 (E : ZE) (M : ZM) (a0 : Nat) (x1 : Int64) : zrun E tb_J7_fill_d0a16 cu_J7_fill_d0a16 2000 [] 0 [some (.ref a0), some (.long x1), none, none, none] [] M =
  zck (zty a0 1)
  (some (.inr (6, [some (.ref a0), some (.long x1), none, some (.int 0), some (.int (Int32.ofNat (zln a0)))], [], M))) := rfl
set_option maxRecDepth 100000 in
set_option maxHeartbeats 4000000 in
theorem e_J7_fill_d0a16_6 (E : ZE) (M : ZM) (a0 : Nat) (x1 : Int64) (x3 : Int32) (x4 : Int32) : zrun E tb_J7_fill_d0a16 cu_J7_fill_d0a16 2000 [] 6 [some (.ref a0), some (.long x1), none, some (.int x3), some (.int x4)] [] M =
  if x4 ≤ x3 then
  (some (.inl (none, M)))
  else
  (zck (zty a0 1 && zin x3 (zln a0))
    (some (.inr (6, [some (.ref a0), some (.long x1), none, some (.int (x3 + 1)), some (.int x4)], [], zwl M a0 x3.toNatClampNeg x1)))) := rfl
set_option maxRecDepth 100000 in
set_option maxHeartbeats 4000000 in
theorem e_J7_fill_53178_0 (E : ZE) (M : ZM) (a0 : Nat) (x1 : Int32) : zrun E tb_J7_fill_53178 cu_J7_fill_53178 2000 [] 0 [some (.ref a0), some (.int x1), none, none] [] M =
  zck (zty a0 0)
  (some (.inr (5, [some (.ref a0), some (.int x1), some (.int 0), some (.int (Int32.ofNat (zln a0)))], [], M))) := rfl
set_option maxRecDepth 100000 in
set_option maxHeartbeats 4000000 in
theorem e_J7_fill_53178_5 (E : ZE) (M : ZM) (a0 : Nat) (x1 : Int32) (x2 : Int32) (x3 : Int32) : zrun E tb_J7_fill_53178 cu_J7_fill_53178 2000 [] 5 [some (.ref a0), some (.int x1), some (.int x2), some (.int x3)] [] M =
  if x3 ≤ x2 then
  (some (.inl (none, M)))
  else
  (zck (zty a0 0 && zin x2 (zln a0))
    (some (.inr (5, [some (.ref a0), some (.int x1), some (.int (x2 + 1)), some (.int x3)], [], zw M a0 x2.toNatClampNeg x1)))) := rfl

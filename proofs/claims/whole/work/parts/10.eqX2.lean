set_option maxRecDepth 100000 in
set_option maxHeartbeats 4000000 in
theorem e_X2_learn_0 (E : ZE) (M : ZM) (b1 : Nat) (hb1 : zsh b1) : zrun E tb_X2_learn cu_X2_learn 2000 [] 0 [some (.ref 53), some (.ref b1), none, none] [] M =
  some (.inr (14, [some (.ref 53), some (.ref b1), some (.int (zshl 1 (M.1 b1 1))), some (.int 1)], [], zw M 53 3 0)) := by
  rcases hb1 with rfl | rfl <;> rfl
set_option maxRecDepth 100000 in
set_option maxHeartbeats 4000000 in
theorem e_X2_learn_14 (E : ZE) (M : ZM) (b1 : Nat) (hb1 : zsh b1) (x2 : Int32) (x3 : Int32) : zrun E tb_X2_learn cu_X2_learn 2000 [] 14 [some (.ref 53), some (.ref b1), some (.int x2), some (.int x3)] [] M =
  if x2 ≤ x3 then
  (some (.inl (none, M)))
  else
  (if 1024 ≤ x3 then
    (some (.inl (none, M)))
    else
    ((E.1 233 [.int x3] M).bind fun q1 =>
      if q1.1 = 1 then
        (zck (zin x3 1024 && true)
          (zck (zin x3 1024)
            (if ((zw q1.2 54 x3.toNatClampNeg 1).1 54 x3.toNatClampNeg) = 0 then
              (some (.inr (14, [some (.ref 53), some (.ref b1), some (.int x2), some (.int (x3 + 1))], [], zw q1.2 54 x3.toNatClampNeg 1)))
              else
              (if 275 ≤ (q1.2.1 53 3) then
                (some (.inr (14, [some (.ref 53), some (.ref b1), some (.int x2), some (.int (x3 + 1))], [], zw q1.2 54 x3.toNatClampNeg 1)))
                else
                (zck (zin (q1.2.1 53 3) 275)
                  (some (.inr (14, [some (.ref 53), some (.ref b1), some (.int x2), some (.int (x3 + 1))], [], zw (zw (zw q1.2 54 x3.toNatClampNeg 1) 55 (q1.2.1 53 3).toNatClampNeg x3) 53 3 ((q1.2.1 53 3) + 1)))))))))
        else
        ((E.1 10 [.ref 53, .ref b1, .int x3] q1.2).bind fun q2 =>
          if q2.1 = 0 then
            (zck (zin x3 1024 && true)
              (zck (zin x3 1024)
                (if ((zw q2.2 54 x3.toNatClampNeg 0).1 54 x3.toNatClampNeg) = 0 then
                  (some (.inr (14, [some (.ref 53), some (.ref b1), some (.int x2), some (.int (x3 + 1))], [], zw q2.2 54 x3.toNatClampNeg 0)))
                  else
                  (if 275 ≤ (q2.2.1 53 3) then
                    (some (.inr (14, [some (.ref 53), some (.ref b1), some (.int x2), some (.int (x3 + 1))], [], zw q2.2 54 x3.toNatClampNeg 0)))
                    else
                    (zck (zin (q2.2.1 53 3) 275)
                      (some (.inr (14, [some (.ref 53), some (.ref b1), some (.int x2), some (.int (x3 + 1))], [], zw (zw (zw q2.2 54 x3.toNatClampNeg 0) 55 (q2.2.1 53 3).toNatClampNeg x3) 53 3 ((q2.2.1 53 3) + 1)))))))))
            else
            (zck (zin x3 1024 && true)
              (zck (zin x3 1024)
                (if ((zw q2.2 54 x3.toNatClampNeg 1).1 54 x3.toNatClampNeg) = 0 then
                  (some (.inr (14, [some (.ref 53), some (.ref b1), some (.int x2), some (.int (x3 + 1))], [], zw q2.2 54 x3.toNatClampNeg 1)))
                  else
                  (if 275 ≤ (q2.2.1 53 3) then
                    (some (.inr (14, [some (.ref 53), some (.ref b1), some (.int x2), some (.int (x3 + 1))], [], zw q2.2 54 x3.toNatClampNeg 1)))
                    else
                    (zck (zin (q2.2.1 53 3) 275)
                      (some (.inr (14, [some (.ref 53), some (.ref b1), some (.int x2), some (.int (x3 + 1))], [], zw (zw (zw q2.2 54 x3.toNatClampNeg 1) 55 (q2.2.1 53 3).toNatClampNeg x3) 53 3 ((q2.2.1 53 3) + 1)))))))))))) := by
  rcases hb1 with rfl | rfl <;> rfl
set_option maxRecDepth 100000 in
set_option maxHeartbeats 4000000 in
theorem e_X2_hangsByOneLess_0 (E : ZE) (M : ZM) (b1 : Nat) (hb1 : zsh b1) (x2 : Int32) : zrun E tb_X2_hangsByOneLess cu_X2_hangsByOneLess 2000 [] 0 [some (.ref 53), some (.ref b1), some (.int x2), none, none] [] M =
  some (.inr (2, [some (.ref 53), some (.ref b1), some (.int x2), some (.int 0), none], [], M)) := by
  rcases hb1 with rfl | rfl <;> rfl
set_option maxRecDepth 100000 in
set_option maxHeartbeats 4000000 in
theorem e_X2_hangsByOneLess_2 (E : ZE) (M : ZM) (b1 : Nat) (hb1 : zsh b1) (x2 : Int32) (x3 : Int32) : zrun E tb_X2_hangsByOneLess cu_X2_hangsByOneLess 2000 [] 2 [some (.ref 53), some (.ref b1), some (.int x2), some (.int x3), none] [] M =
  if (M.1 b1 1) ≤ x3 then
  (some (.inl (some (.int 0), M)))
  else
  (if ((zshr x2 x3) &&& 1) = 0 then
    (if (0 : Int32) = 0 then
      (some (.inr (2, [some (.ref 53), some (.ref b1), some (.int x2), some (.int (x3 + 1)), none], [], M)))
      else
      (zck (zin (x2 ^^^ (zshl 1 x3)) 1024)
        (if (M.1 54 (x2 ^^^ (zshl 1 x3)).toNatClampNeg) = 0 then
          (some (.inr (2, [some (.ref 53), some (.ref b1), some (.int x2), some (.int (x3 + 1)), none], [], M)))
          else
          (some (.inl (some (.int 1), M))))))
    else
    (zck (zin x3 10)
      (if ((M.1 (b1 + 1) x3.toNatClampNeg) &&& x2) = 0 then
        (if (0 : Int32) = 0 then
          (some (.inr (2, [some (.ref 53), some (.ref b1), some (.int x2), some (.int (x3 + 1)), none], [], M)))
          else
          (zck (zin (x2 ^^^ (zshl 1 x3)) 1024)
            (if (M.1 54 (x2 ^^^ (zshl 1 x3)).toNatClampNeg) = 0 then
              (some (.inr (2, [some (.ref 53), some (.ref b1), some (.int x2), some (.int (x3 + 1)), none], [], M)))
              else
              (some (.inl (some (.int 1), M))))))
        else
        (if (1 : Int32) = 0 then
          (some (.inr (2, [some (.ref 53), some (.ref b1), some (.int x2), some (.int (x3 + 1)), none], [], M)))
          else
          (zck (zin (x2 ^^^ (zshl 1 x3)) 1024)
            (if (M.1 54 (x2 ^^^ (zshl 1 x3)).toNatClampNeg) = 0 then
              (some (.inr (2, [some (.ref 53), some (.ref b1), some (.int x2), some (.int (x3 + 1)), none], [], M)))
              else
              (some (.inl (some (.int 1), M))))))))) := by
  rcases hb1 with rfl | rfl <;> rfl
set_option maxRecDepth 100000 in
set_option maxHeartbeats 4000000 in
theorem e_X2_weigh_0 (E : ZE) (M : ZM) (b1 : Nat) (hb1 : zsh b1) : zrun E tb_X2_weigh cu_X2_weigh 2000 [] 0 [some (.ref 53), some (.ref b1), none] [] M =
  some (.inr (2, [some (.ref 53), some (.ref b1), some (.int 0)], [], M)) := by
  rcases hb1 with rfl | rfl <;> rfl
set_option maxRecDepth 100000 in
set_option maxHeartbeats 4000000 in
theorem e_X2_weigh_2 (E : ZE) (M : ZM) (b1 : Nat) (hb1 : zsh b1) (x2 : Int32) : zrun E tb_X2_weigh cu_X2_weigh 2000 [] 2 [some (.ref 53), some (.ref b1), some (.int x2)] [] M =
  if (M.1 53 3) ≤ x2 then
  (some (.inl (none, M)))
  else
  (zck (zin x2 275)
    ((E.1 68 [.ref b1, .int (M.1 55 x2.toNatClampNeg)] M).bind fun q1 =>
      zck (zin x2 275)
        (some (.inr (2, [some (.ref 53), some (.ref b1), some (.int (x2 + 1))], [], zw q1.2 56 x2.toNatClampNeg q1.1))))) := by
  rcases hb1 with rfl | rfl <;> rfl
set_option maxRecDepth 100000 in
set_option maxHeartbeats 4000000 in
theorem e_X2_isPiece_0 (E : ZE) (M : ZM) (b1 : Nat) (hb1 : zsh b1) (x2 : Int32) : zrun E tb_X2_isPiece cu_X2_isPiece 2000 [] 0 [some (.ref 53), some (.ref b1), some (.int x2)] [] M =
  if x2 ≤ 0 then
  (some (.inl (some (.int 0), M)))
  else
  (if 1024 ≤ x2 then
    (some (.inl (some (.int 0), M)))
    else
    ((E.1 62 [.ref b1, .int x2] M).bind fun q1 =>
      if q1.1 = 0 then
        (some (.inl (some (.int 0), q1.2)))
        else
        (zck (zin x2 1024)
          (if (q1.2.1 54 x2.toNatClampNeg) = 0 then
            (some (.inl (some (.int 0), q1.2)))
            else
            (some (.inl (some (.int 1), q1.2))))))) := by
  rcases hb1 with rfl | rfl <;> rfl
set_option maxRecDepth 100000 in
set_option maxHeartbeats 4000000 in
theorem e_X2_couldServe_0 (E : ZE) (M : ZM) (b1 : Nat) (hb1 : zsh b1) (x2 : Int32) (x3 : Int32) : zrun E tb_X2_couldServe cu_X2_couldServe 2000 [] 0 [some (.ref 53), some (.ref b1), some (.int x2), some (.int x3)] [] M =
  zck (zin x3 275)
  ((E.1 62 [.ref b1, .int (M.1 55 x3.toNatClampNeg)] M).bind fun q1 =>
    if q1.1 = 0 then
      (some (.inl (some (.int 0), q1.2)))
      else
      (zck (zin x3 275)
        ((E.1 64 [.ref b1, .int x2, .int (q1.2.1 56 x3.toNatClampNeg)] q1.2).bind fun q2 =>
          if q2.1 = 0 then
            (some (.inl (some (.int 0), q2.2)))
            else
            (some (.inl (some (.int 1), q2.2)))))) := by
  rcases hb1 with rfl | rfl <;> rfl
set_option maxRecDepth 100000 in
set_option maxHeartbeats 4000000 in
theorem e_X2_countAll_0 (E : ZE) (M : ZM) (b1 : Nat) (hb1 : zsh b1) : zrun E tb_X2_countAll cu_X2_countAll 2000 [] 0 [some (.ref 53), some (.ref b1), none, none] [] M =
  some (.inr (4, [some (.ref 53), some (.ref b1), some (.int 0), some (.int 0)], [], M)) := by
  rcases hb1 with rfl | rfl <;> rfl
set_option maxRecDepth 100000 in
set_option maxHeartbeats 4000000 in
theorem e_X2_countAll_4 (E : ZE) (M : ZM) (b1 : Nat) (hb1 : zsh b1) (x2 : Int32) (x3 : Int32) : zrun E tb_X2_countAll cu_X2_countAll 2000 [] 4 [some (.ref 53), some (.ref b1), some (.int x2), some (.int x3)] [] M =
  if (M.1 53 3) ≤ x3 then
  (some (.inl (some (.int x2), M)))
  else
  (zck (zin x3 275)
    ((E.1 62 [.ref b1, .int (M.1 55 x3.toNatClampNeg)] M).bind fun q1 =>
      if q1.1 = 0 then
        (some (.inr (4, [some (.ref 53), some (.ref b1), some (.int (x2 + 0)), some (.int (x3 + 1))], [], q1.2)))
        else
        (some (.inr (4, [some (.ref 53), some (.ref b1), some (.int (x2 + 1)), some (.int (x3 + 1))], [], q1.2))))) := by
  rcases hb1 with rfl | rfl <;> rfl
set_option maxRecDepth 100000 in
set_option maxHeartbeats 4000000 in
theorem e_X2_countOf_0 (E : ZE) (M : ZM) (b1 : Nat) (hb1 : zsh b1) (x2 : Int32) (x3 : Int32) : zrun E tb_X2_countOf cu_X2_countOf 2000 [] 0 [some (.ref 53), some (.ref b1), some (.int x2), some (.int x3), none, none, none] [] M =
  some (.inr (6, [some (.ref 53), some (.ref b1), some (.int x2), some (.int x3), some (.int 0), some (.int 0), none], [], M)) := by
  rcases hb1 with rfl | rfl <;> rfl
set_option maxRecDepth 100000 in
set_option maxHeartbeats 4000000 in
theorem e_X2_countOf_6 (E : ZE) (M : ZM) (b1 : Nat) (hb1 : zsh b1) (x2 : Int32) (x3 : Int32) (x4 : Int32) (x5 : Int32) : zrun E tb_X2_countOf cu_X2_countOf 2000 [] 6 [some (.ref 53), some (.ref b1), some (.int x2), some (.int x3), some (.int x4), some (.int x5), none] [] M =
  if (M.1 53 3) ≤ x5 then
  (some (.inl (some (.int x4), M)))
  else
  (zck (zin x5 275)
    ((E.1 233 [.int (M.1 55 x5.toNatClampNeg)] M).bind fun q1 =>
      if q1.1 = x2 then
        ((E.1 62 [.ref b1, .int (M.1 55 x5.toNatClampNeg)] q1.2).bind fun q2 =>
          if q2.1 = 0 then
            (some (.inr (6, [some (.ref 53), some (.ref b1), some (.int x2), some (.int x3), some (.int x4), some (.int (x5 + 1)), none], [], q2.2)))
            else
            (if x3 = 0 then
              (some (.inr (6, [some (.ref 53), some (.ref b1), some (.int x2), some (.int x3), some (.int (x4 + 1)), some (.int (x5 + 1)), none], [], q2.2)))
              else
              ((E.1 16 [.ref 53, .ref b1, .int (M.1 55 x5.toNatClampNeg)] q2.2).bind fun q3 =>
                if q3.1 = 0 then
                  (some (.inr (6, [some (.ref 53), some (.ref b1), some (.int x2), some (.int x3), some (.int (x4 + 0)), some (.int (x5 + 1)), none], [], q3.2)))
                  else
                  (some (.inr (6, [some (.ref 53), some (.ref b1), some (.int x2), some (.int x3), some (.int (x4 + 1)), some (.int (x5 + 1)), none], [], q3.2))))))
        else
        (some (.inr (6, [some (.ref 53), some (.ref b1), some (.int x2), some (.int x3), some (.int x4), some (.int (x5 + 1)), none], [], q1.2))))) := by
  rcases hb1 with rfl | rfl <;> rfl
set_option maxRecDepth 100000 in
set_option maxHeartbeats 4000000 in
theorem e_X2_isStraight_0 (E : ZE) (M : ZM) (b1 : Nat) (hb1 : zsh b1) (x2 : Int32) : zrun E tb_X2_isStraight cu_X2_isStraight 2000 [] 0 [some (.ref 53), some (.ref b1), some (.int x2), none, none, none, none] [] M =
  if 1 ≤ (M.1 b1 0) then
  ((E.1 232 [.int x2] M).bind fun q1 =>
    some (.inr (24, [none, some (.ref b1), some (.int x2), some (.int q1.1), some (.int 1), some (.int 1), some (.int 0)], [], q1.2)))
  else
  (some (.inl (some (.int 0), M))) := by
  rcases hb1 with rfl | rfl <;> rfl
set_option maxRecDepth 100000 in
set_option maxHeartbeats 4000000 in
theorem e_X2_isStraight_24 (E : ZE) (M : ZM) (b1 : Nat) (hb1 : zsh b1) (x2 : Int32) (x3 : Int32) (x4 : Int32) (x5 : Int32) (x6 : Int32) : zrun E tb_X2_isStraight cu_X2_isStraight 2000 [] 24 [none, some (.ref b1), some (.int x2), some (.int x3), some (.int x4), some (.int x5), some (.int x6)] [] M =
  if (M.1 b1 1) ≤ x6 then
  (if x4 = 0 then
    (if x5 = 0 then
      (some (.inl (some (.int 0), M)))
      else
      (some (.inl (some (.int 1), M))))
    else
    (some (.inl (some (.int 1), M))))
  else
  (if ((zshr x2 x6) &&& 1) = 0 then
    (some (.inr (24, [none, some (.ref b1), some (.int x2), some (.int x3), some (.int x4), some (.int x5), some (.int (x6 + 1))], [], M)))
    else
    (zck (!(decide (M.1 b1 0 = 0)))
      (zck (!(decide (M.1 b1 0 = 0)))
        (if (x6 / (M.1 b1 0)) = (x3 / (M.1 b1 0)) then
          (zck (!(decide (M.1 b1 0 = 0)))
            (zck (!(decide (M.1 b1 0 = 0)))
              (if (zrem x6 (M.1 b1 0)) = (zrem x3 (M.1 b1 0)) then
                (some (.inr (24, [none, some (.ref b1), some (.int x2), some (.int x3), some (.int (x4 &&& 1)), some (.int (x5 &&& 1)), some (.int (x6 + 1))], [], M)))
                else
                (some (.inr (24, [none, some (.ref b1), some (.int x2), some (.int x3), some (.int (x4 &&& 1)), some (.int (x5 &&& 0)), some (.int (x6 + 1))], [], M))))))
          else
          (zck (!(decide (M.1 b1 0 = 0)))
            (zck (!(decide (M.1 b1 0 = 0)))
              (if (zrem x6 (M.1 b1 0)) = (zrem x3 (M.1 b1 0)) then
                (some (.inr (24, [none, some (.ref b1), some (.int x2), some (.int x3), some (.int (x4 &&& 0)), some (.int (x5 &&& 1)), some (.int (x6 + 1))], [], M)))
                else
                (some (.inr (24, [none, some (.ref b1), some (.int x2), some (.int x3), some (.int (x4 &&& 0)), some (.int (x5 &&& 0)), some (.int (x6 + 1))], [], M)))))))))) := by
  rcases hb1 with rfl | rfl <;> rfl
set_option maxRecDepth 100000 in
set_option maxHeartbeats 4000000 in
theorem e_X2_markSums_0 (E : ZE) (M : ZM) (b1 : Nat) (hb1 : zsh b1) : zrun E tb_X2_markSums cu_X2_markSums 2000 [] 0 [some (.ref 53), some (.ref b1), none] [] M =
  (E.2.2 237 [.ref 59, .int 0] M).bind fun q1 =>
  some (.inr (10, [some (.ref 53), some (.ref b1), some (.int 0)], [], q1)) := by
  rcases hb1 with rfl | rfl <;> rfl
set_option maxRecDepth 100000 in
set_option maxHeartbeats 4000000 in
theorem e_X2_markSums_10 (E : ZE) (M : ZM) (b1 : Nat) (hb1 : zsh b1) (x2 : Int32) : zrun E tb_X2_markSums cu_X2_markSums 2000 [] 10 [some (.ref 53), some (.ref b1), some (.int x2)] [] M =
  if (M.1 53 3) ≤ x2 then
  (some (.inl (none, M)))
  else
  (zck (zin x2 275)
    ((E.1 62 [.ref b1, .int (M.1 55 x2.toNatClampNeg)] M).bind fun q1 =>
      if q1.1 = 0 then
        (some (.inr (10, [some (.ref 53), some (.ref b1), some (.int (x2 + 1))], [], q1.2)))
        else
        (zck (zin x2 275)
          (if (q1.2.1 56 x2.toNatClampNeg) < 0 then
            (some (.inr (10, [some (.ref 53), some (.ref b1), some (.int (x2 + 1))], [], q1.2)))
            else
            (zck (zin x2 275)
              (if 100 ≤ (q1.2.1 56 x2.toNatClampNeg) then
                (some (.inr (10, [some (.ref 53), some (.ref b1), some (.int (x2 + 1))], [], q1.2)))
                else
                (zck (zin x2 275)
                  (zck (zin (q1.2.1 56 x2.toNatClampNeg) 100)
                    (some (.inr (10, [some (.ref 53), some (.ref b1), some (.int (x2 + 1))], [], zw q1.2 59 (q1.2.1 56 x2.toNatClampNeg).toNatClampNeg 1))))))))))) := by
  rcases hb1 with rfl | rfl <;> rfl
set_option maxRecDepth 100000 in
set_option maxHeartbeats 4000000 in
theorem e_X2_countSums_0 (E : ZE) (M : ZM) : zrun E tb_X2_countSums cu_X2_countSums 2000 [] 0 [some (.ref 53), none, none] [] M =
  some (.inr (4, [some (.ref 53), some (.int 0), some (.int 0)], [], M)) := rfl
set_option maxRecDepth 100000 in
set_option maxHeartbeats 4000000 in
theorem e_X2_countSums_4 (E : ZE) (M : ZM) (x1 : Int32) (x2 : Int32) : zrun E tb_X2_countSums cu_X2_countSums 2000 [] 4 [some (.ref 53), some (.int x1), some (.int x2)] [] M =
  if 100 ≤ x2 then
  (some (.inl (some (.int x1), M)))
  else
  (zck (zin x2 100)
    (some (.inr (4, [some (.ref 53), some (.int (x1 + (M.1 59 x2.toNatClampNeg))), some (.int (x2 + 1))], [], M)))) := rfl
set_option maxRecDepth 100000 in
set_option maxHeartbeats 4000000 in
theorem e_X2_leastSumUnpaid_0 (E : ZE) (M : ZM) : zrun E tb_X2_leastSumUnpaid cu_X2_leastSumUnpaid 2000 [] 0 [some (.ref 53), none] [] M =
  some (.inr (2, [some (.ref 53), some (.int 0)], [], M)) := rfl
set_option maxRecDepth 100000 in
set_option maxHeartbeats 4000000 in
theorem e_X2_leastSumUnpaid_2 (E : ZE) (M : ZM) (x1 : Int32) : zrun E tb_X2_leastSumUnpaid cu_X2_leastSumUnpaid 2000 [] 2 [some (.ref 53), some (.int x1)] [] M =
  if 100 ≤ x1 then
  (some (.inl (some (.int (-1000000)), M)))
  else
  (zck (zin x1 100)
    (if (M.1 59 x1.toNatClampNeg) = 0 then
      (some (.inl (some (.int x1), M)))
      else
      (some (.inr (2, [some (.ref 53), some (.int (x1 + 1))], [], M))))) := rfl
set_option maxRecDepth 100000 in
set_option maxHeartbeats 4000000 in
theorem e_X2_greatestSum_0 (E : ZE) (M : ZM) (b1 : Nat) (hb1 : zsh b1) : zrun E tb_X2_greatestSum cu_X2_greatestSum 2000 [] 0 [some (.ref 53), some (.ref b1), none, none] [] M =
  some (.inr (4, [some (.ref 53), some (.ref b1), some (.int 0), some (.int 0)], [], M)) := by
  rcases hb1 with rfl | rfl <;> rfl
set_option maxRecDepth 100000 in
set_option maxHeartbeats 4000000 in
theorem e_X2_greatestSum_4 (E : ZE) (M : ZM) (b1 : Nat) (hb1 : zsh b1) (x2 : Int32) (x3 : Int32) : zrun E tb_X2_greatestSum cu_X2_greatestSum 2000 [] 4 [some (.ref 53), some (.ref b1), some (.int x2), some (.int x3)] [] M =
  if (M.1 53 3) ≤ x3 then
  (some (.inl (some (.int x2), M)))
  else
  (zck (zin x3 275)
    ((E.1 62 [.ref b1, .int (M.1 55 x3.toNatClampNeg)] M).bind fun q1 =>
      if q1.1 = 0 then
        (some (.inr (4, [some (.ref 53), some (.ref b1), some (.int x2), some (.int (x3 + 1))], [], q1.2)))
        else
        (zck (zin x3 275)
          ((E.1 234 [.int x2, .int (q1.2.1 56 x3.toNatClampNeg)] q1.2).bind fun q2 =>
            some (.inr (4, [some (.ref 53), some (.ref b1), some (.int q2.1), some (.int (x3 + 1))], [], q2.2)))))) := by
  rcases hb1 with rfl | rfl <;> rfl
set_option maxRecDepth 100000 in
set_option maxHeartbeats 4000000 in
theorem e_X2_bestFor_0 (E : ZE) (M : ZM) (b1 : Nat) (hb1 : zsh b1) (x2 : Int32) : zrun E tb_X2_bestFor cu_X2_bestFor 2000 [] 0 [some (.ref 53), some (.ref b1), some (.int x2), none, none, none, none] [] M =
  some (.inr (8, [some (.ref 53), some (.ref b1), some (.int x2), some (.int 0), some (.int 0), some (.int 0), none], [], M)) := by
  rcases hb1 with rfl | rfl <;> rfl
set_option maxRecDepth 100000 in
set_option maxHeartbeats 4000000 in
theorem e_X2_bestFor_8 (E : ZE) (M : ZM) (b1 : Nat) (hb1 : zsh b1) (x2 : Int32) (x3 : Int32) (x4 : Int32) (x5 : Int32) : zrun E tb_X2_bestFor cu_X2_bestFor 2000 [] 8 [some (.ref 53), some (.ref b1), some (.int x2), some (.int x3), some (.int x4), some (.int x5), none] [] M =
  if (M.1 53 3) ≤ x5 then
  (some (.inl (some (.int x3), M)))
  else
  ((E.1 13 [.ref 53, .ref b1, .int x2, .int x5] M).bind fun q1 =>
    if q1.1 = 0 then
      (some (.inr (8, [some (.ref 53), some (.ref b1), some (.int x2), some (.int x3), some (.int x4), some (.int (x5 + 1)), none], [], q1.2)))
      else
      (zck (zin x5 275)
        ((E.1 22 [.ref b1, .int (q1.2.1 55 x5.toNatClampNeg)] q1.2).bind fun q2 =>
          if x3 = 0 then
            (zck (zin x5 275)
              (some (.inr (8, [some (.ref 53), some (.ref b1), some (.int x2), some (.int (q2.2.1 55 x5.toNatClampNeg)), some (.int q2.1), some (.int (x5 + 1)), none], [], q2.2))))
            else
            (if x4 ≤ q2.1 then
              (some (.inr (8, [some (.ref 53), some (.ref b1), some (.int x2), some (.int x3), some (.int x4), some (.int (x5 + 1)), none], [], q2.2)))
              else
              (zck (zin x5 275)
                (some (.inr (8, [some (.ref 53), some (.ref b1), some (.int x2), some (.int (q2.2.1 55 x5.toNatClampNeg)), some (.int q2.1), some (.int (x5 + 1)), none], [], q2.2)))))))) := by
  rcases hb1 with rfl | rfl <;> rfl
set_option maxRecDepth 100000 in
set_option maxHeartbeats 4000000 in
theorem e_X2_rankOf_0 (E : ZE) (M : ZM) (b0 : Nat) (hb0 : zsh b0) (x1 : Int32) : zrun E tb_X2_rankOf cu_X2_rankOf 2000 [] 0 [some (.ref b0), some (.int x1)] [] M =
  (E.1 70 [.ref b0, .int x1] M).bind fun q1 =>
  (E.1 233 [.int x1] q1.2).bind fun q2 =>
    some (.inl (some (.int ((16 * q1.1) + q2.1)), q2.2)) := by
  rcases hb0 with rfl | rfl <;> rfl
set_option maxRecDepth 100000 in
set_option maxHeartbeats 4000000 in
theorem e_X2_countFor_0 (E : ZE) (M : ZM) (b1 : Nat) (hb1 : zsh b1) (x2 : Int32) : zrun E tb_X2_countFor cu_X2_countFor 2000 [] 0 [some (.ref 53), some (.ref b1), some (.int x2), none, none] [] M =
  some (.inr (5, [some (.ref 53), some (.ref b1), some (.int x2), some (.int 0), some (.int 0)], [], M)) := by
  rcases hb1 with rfl | rfl <;> rfl
set_option maxRecDepth 100000 in
set_option maxHeartbeats 4000000 in
theorem e_X2_countFor_5 (E : ZE) (M : ZM) (b1 : Nat) (hb1 : zsh b1) (x2 : Int32) (x3 : Int32) (x4 : Int32) : zrun E tb_X2_countFor cu_X2_countFor 2000 [] 5 [some (.ref 53), some (.ref b1), some (.int x2), some (.int x3), some (.int x4)] [] M =
  if (M.1 53 3) ≤ x4 then
  (some (.inl (some (.int x3), M)))
  else
  ((E.1 13 [.ref 53, .ref b1, .int x2, .int x4] M).bind fun q1 =>
    if q1.1 = 0 then
      (some (.inr (5, [some (.ref 53), some (.ref b1), some (.int x2), some (.int (x3 + 0)), some (.int (x4 + 1))], [], q1.2)))
      else
      (some (.inr (5, [some (.ref 53), some (.ref b1), some (.int x2), some (.int (x3 + 1)), some (.int (x4 + 1))], [], q1.2)))) := by
  rcases hb1 with rfl | rfl <;> rfl
set_option maxRecDepth 100000 in
set_option maxHeartbeats 4000000 in
theorem e_X2_cheapestFor_0 (E : ZE) (M : ZM) (b1 : Nat) (hb1 : zsh b1) (x2 : Int32) : zrun E tb_X2_cheapestFor cu_X2_cheapestFor 2000 [] 0 [some (.ref 53), some (.ref b1), some (.int x2), none, none, none, none] [] M =
  some (.inr (8, [some (.ref 53), some (.ref b1), some (.int x2), some (.int 0), some (.int 0), some (.int 0), none], [], M)) := by
  rcases hb1 with rfl | rfl <;> rfl
set_option maxRecDepth 100000 in
set_option maxHeartbeats 4000000 in
theorem e_X2_cheapestFor_8 (E : ZE) (M : ZM) (b1 : Nat) (hb1 : zsh b1) (x2 : Int32) (x3 : Int32) (x4 : Int32) (x5 : Int32) : zrun E tb_X2_cheapestFor cu_X2_cheapestFor 2000 [] 8 [some (.ref 53), some (.ref b1), some (.int x2), some (.int x3), some (.int x4), some (.int x5), none] [] M =
  if (M.1 53 3) ≤ x5 then
  (some (.inl (some (.int x3), M)))
  else
  (if x3 = 0 then
    (if (1 : Int32) = 0 then
      (some (.inr (8, [some (.ref 53), some (.ref b1), some (.int x2), some (.int x3), some (.int x4), some (.int (x5 + 1)), none], [], M)))
      else
      ((E.1 13 [.ref 53, .ref b1, .int x2, .int x5] M).bind fun q1 =>
        if q1.1 = 0 then
          (some (.inr (8, [some (.ref 53), some (.ref b1), some (.int x2), some (.int x3), some (.int x4), some (.int (x5 + 1)), none], [], q1.2)))
          else
          (zck (zin x5 275)
            (zck (zin x5 275)
              (some (.inr (8, [some (.ref 53), some (.ref b1), some (.int x2), some (.int (q1.2.1 55 x5.toNatClampNeg)), some (.int (q1.2.1 56 x5.toNatClampNeg)), some (.int (x5 + 1)), none], [], q1.2)))))))
    else
    (zck (zin x5 275)
      (if x4 ≤ (M.1 56 x5.toNatClampNeg) then
        (if (0 : Int32) = 0 then
          (some (.inr (8, [some (.ref 53), some (.ref b1), some (.int x2), some (.int x3), some (.int x4), some (.int (x5 + 1)), none], [], M)))
          else
          ((E.1 13 [.ref 53, .ref b1, .int x2, .int x5] M).bind fun q2 =>
            if q2.1 = 0 then
              (some (.inr (8, [some (.ref 53), some (.ref b1), some (.int x2), some (.int x3), some (.int x4), some (.int (x5 + 1)), none], [], q2.2)))
              else
              (zck (zin x5 275)
                (zck (zin x5 275)
                  (some (.inr (8, [some (.ref 53), some (.ref b1), some (.int x2), some (.int (q2.2.1 55 x5.toNatClampNeg)), some (.int (q2.2.1 56 x5.toNatClampNeg)), some (.int (x5 + 1)), none], [], q2.2)))))))
        else
        (if (1 : Int32) = 0 then
          (some (.inr (8, [some (.ref 53), some (.ref b1), some (.int x2), some (.int x3), some (.int x4), some (.int (x5 + 1)), none], [], M)))
          else
          ((E.1 13 [.ref 53, .ref b1, .int x2, .int x5] M).bind fun q3 =>
            if q3.1 = 0 then
              (some (.inr (8, [some (.ref 53), some (.ref b1), some (.int x2), some (.int x3), some (.int x4), some (.int (x5 + 1)), none], [], q3.2)))
              else
              (zck (zin x5 275)
                (zck (zin x5 275)
                  (some (.inr (8, [some (.ref 53), some (.ref b1), some (.int x2), some (.int (q3.2.1 55 x5.toNatClampNeg)), some (.int (q3.2.1 56 x5.toNatClampNeg)), some (.int (x5 + 1)), none], [], q3.2)))))))))) := by
  rcases hb1 with rfl | rfl <;> rfl
set_option maxRecDepth 100000 in
set_option maxHeartbeats 4000000 in
theorem e_X2_mostServed_0 (E : ZE) (M : ZM) (b1 : Nat) (hb1 : zsh b1) : zrun E tb_X2_mostServed cu_X2_mostServed 2000 [] 0 [some (.ref 53), some (.ref b1), none, none] [] M =
  (E.2.2 26 [.ref 53, .ref b1] M).bind fun q1 =>
  (E.2.2 28 [.ref 53, .ref b1] q1).bind fun q2 =>
    some (.inr (14, [some (.ref 53), some (.ref b1), some (.int 0), some (.int 1)], [], q2)) := by
  rcases hb1 with rfl | rfl <;> rfl
set_option maxRecDepth 100000 in
set_option maxHeartbeats 4000000 in
theorem e_X2_mostServed_14 (E : ZE) (M : ZM) (b1 : Nat) (hb1 : zsh b1) (x2 : Int32) (x3 : Int32) : zrun E tb_X2_mostServed cu_X2_mostServed 2000 [] 14 [some (.ref 53), some (.ref b1), some (.int x2), some (.int x3)] [] M =
  if 32 ≤ x3 then
  (some (.inl (some (.int x2), M)))
  else
  ((E.1 31 [.ref 53, .int (M.1 b1 5), .int x3] M).bind fun q1 =>
    if q1.1 = 0 then
      (some (.inr (14, [some (.ref 53), some (.ref b1), some (.int x2), some (.int (x3 + 1))], [], q1.2)))
      else
      ((E.1 233 [.int x3] q1.2).bind fun q2 =>
        (E.1 233 [.int x2] q2.2).bind fun q3 =>
          if q2.1 ≤ q3.1 then
            (some (.inr (14, [some (.ref 53), some (.ref b1), some (.int x2), some (.int (x3 + 1))], [], q3.2)))
            else
            (some (.inr (14, [some (.ref 53), some (.ref b1), some (.int x3), some (.int (x3 + 1))], [], q3.2))))) := by
  rcases hb1 with rfl | rfl <;> rfl
set_option maxRecDepth 100000 in
set_option maxHeartbeats 4000000 in
theorem e_X2_findSuited_0 (E : ZE) (M : ZM) (b1 : Nat) (hb1 : zsh b1) : zrun E tb_X2_findSuited cu_X2_findSuited 2000 [] 0 [some (.ref 53), some (.ref b1), none] [] M =
  (E.2.2 237 [.ref 57, .int 0] M).bind fun q1 =>
  some (.inr (10, [some (.ref 53), some (.ref b1), some (.int 0)], [], q1)) := by
  rcases hb1 with rfl | rfl <;> rfl
set_option maxRecDepth 100000 in
set_option maxHeartbeats 4000000 in
theorem e_X2_findSuited_10 (E : ZE) (M : ZM) (b1 : Nat) (hb1 : zsh b1) (x2 : Int32) : zrun E tb_X2_findSuited cu_X2_findSuited 2000 [] 10 [some (.ref 53), some (.ref b1), some (.int x2)] [] M =
  if (M.1 53 3) ≤ x2 then
  (some (.inl (none, M)))
  else
  (zck (zin x2 275)
    ((E.1 62 [.ref b1, .int (M.1 55 x2.toNatClampNeg)] M).bind fun q1 =>
      if q1.1 = 0 then
        (some (.inr (10, [some (.ref 53), some (.ref b1), some (.int (x2 + 1))], [], q1.2)))
        else
        (zck (zin x2 275)
          (zck (zin x2 275)
            ((E.1 27 [.ref 53, .ref b1, .int (q1.2.1 56 x2.toNatClampNeg)] q1.2).bind fun q2 =>
              zck (zin (q1.2.1 55 x2.toNatClampNeg) 1024)
                (some (.inr (10, [some (.ref 53), some (.ref b1), some (.int (x2 + 1))], [], zw q2.2 57 (q1.2.1 55 x2.toNatClampNeg).toNatClampNeg q2.1)))))))) := by
  rcases hb1 with rfl | rfl <;> rfl
set_option maxRecDepth 100000 in
set_option maxHeartbeats 4000000 in
theorem e_X2_suitedBy_0 (E : ZE) (M : ZM) (b1 : Nat) (hb1 : zsh b1) (x2 : Int32) : zrun E tb_X2_suitedBy cu_X2_suitedBy 2000 [] 0 [some (.ref 53), some (.ref b1), some (.int x2), none, none] [] M =
  some (.inr (5, [none, some (.ref b1), some (.int x2), some (.int 0), some (.int 0)], [], M)) := by
  rcases hb1 with rfl | rfl <;> rfl
set_option maxRecDepth 100000 in
set_option maxHeartbeats 4000000 in
theorem e_X2_suitedBy_5 (E : ZE) (M : ZM) (b1 : Nat) (hb1 : zsh b1) (x2 : Int32) (x3 : Int32) (x4 : Int32) : zrun E tb_X2_suitedBy cu_X2_suitedBy 2000 [] 5 [none, some (.ref b1), some (.int x2), some (.int x3), some (.int x4)] [] M =
  if (M.1 b1 2) ≤ x4 then
  (some (.inl (some (.int x3), M)))
  else
  ((E.1 63 [.ref b1, .int x4] M).bind fun q1 =>
    if q1.1 = 0 then
      ((E.1 64 [.ref b1, .int x4, .int x2] q1.2).bind fun q2 =>
        if q2.1 = 0 then
          (some (.inr (5, [none, some (.ref b1), some (.int x2), some (.int (x3 ||| 0)), some (.int (x4 + 1))], [], q2.2)))
          else
          (some (.inr (5, [none, some (.ref b1), some (.int x2), some (.int (x3 ||| (zshl 1 x4))), some (.int (x4 + 1))], [], q2.2))))
      else
      (some (.inr (5, [none, some (.ref b1), some (.int x2), some (.int (x3 ||| 0)), some (.int (x4 + 1))], [], q1.2)))) := by
  rcases hb1 with rfl | rfl <;> rfl
set_option maxRecDepth 100000 in
set_option maxHeartbeats 4000000 in
theorem e_X2_findServable_0 (E : ZE) (M : ZM) (b1 : Nat) (hb1 : zsh b1) : zrun E tb_X2_findServable cu_X2_findServable 2000 [] 0 [some (.ref 53), some (.ref b1), none] [] M =
  some (.inr (9, [some (.ref 53), some (.ref b1), some (.int 1)], [], zw M 58 0 1)) := by
  rcases hb1 with rfl | rfl <;> rfl
set_option maxRecDepth 100000 in
set_option maxHeartbeats 4000000 in
theorem e_X2_findServable_9 (E : ZE) (M : ZM) (b1 : Nat) (hb1 : zsh b1) (x2 : Int32) : zrun E tb_X2_findServable cu_X2_findServable 2000 [] 9 [some (.ref 53), some (.ref b1), some (.int x2)] [] M =
  if (M.1 b1 5) < x2 then
  (some (.inl (none, M)))
  else
  (if 1024 ≤ x2 then
    (some (.inl (none, M)))
    else
    ((E.1 62 [.ref b1, .int x2] M).bind fun q1 =>
      if q1.1 = 0 then
        (some (.inr (9, [some (.ref 53), some (.ref b1), some (.int (x2 + 1))], [], q1.2)))
        else
        ((E.1 29 [.ref 53, .int x2] q1.2).bind fun q2 =>
          zck (zin x2 1024)
            (some (.inr (9, [some (.ref 53), some (.ref b1), some (.int (x2 + 1))], [], zw q2.2 58 x2.toNatClampNeg q2.1)))))) := by
  rcases hb1 with rfl | rfl <;> rfl
set_option maxRecDepth 100000 in
set_option maxHeartbeats 4000000 in
theorem e_X2_servableBy_0 (E : ZE) (M : ZM) (x1 : Int32) : zrun E tb_X2_servableBy cu_X2_servableBy 2000 [] 0 [some (.ref 53), some (.int x1), none, none, none, none, none] [] M =
  (E.1 231 [.int x1] M).bind fun q1 =>
  zck (zin (x1 ^^^ q1.1) 1024)
    (some (.inr (20, [some (.ref 53), some (.int x1), some (.int q1.1), some (.int (x1 ^^^ q1.1)), some (.int (q1.2.1 58 (x1 ^^^ q1.1).toNatClampNeg)), some (.int (x1 ^^^ q1.1)), none], [], q1.2))) := rfl
set_option maxRecDepth 100000 in
set_option maxHeartbeats 4000000 in
theorem e_X2_servableBy_20 (E : ZE) (M : ZM) (x1 : Int32) (x2 : Int32) (x3 : Int32) (x4 : Int32) (x5 : Int32) : zrun E tb_X2_servableBy cu_X2_servableBy 2000 [] 20 [some (.ref 53), some (.int x1), some (.int x2), some (.int x3), some (.int x4), some (.int x5), none] [] M =
  if x5 < 0 then
  (some (.inl (some (.int x4), M)))
  else
  (zck (zin (x2 ||| (x5 &&& x3)) 1024)
    (if (M.1 57 (x2 ||| (x5 &&& x3)).toNatClampNeg) = 0 then
      (some (.inr (20, [some (.ref 53), some (.int x1), some (.int x2), some (.int x3), some (.int x4), some (.int ((x5 &&& x3) + (-1))), none], [], M)))
      else
      (zck (zin (x1 ^^^ (x2 ||| (x5 &&& x3))) 1024)
        (zck (zin (x2 ||| (x5 &&& x3)) 1024)
          ((E.1 30 [.int (M.1 58 (x1 ^^^ (x2 ||| (x5 &&& x3))).toNatClampNeg), .int (M.1 57 (x2 ||| (x5 &&& x3)).toNatClampNeg)] M).bind fun q1 =>
            some (.inr (20, [some (.ref 53), some (.int x1), some (.int x2), some (.int x3), some (.int (x4 ||| q1.1)), some (.int ((x5 &&& x3) + (-1))), none], [], q1.2))))))) := rfl
set_option maxRecDepth 100000 in
set_option maxHeartbeats 4000000 in
theorem e_X2_withOneMore_0 (E : ZE) (M : ZM) (x0 : Int32) (x1 : Int32) : zrun E tb_X2_withOneMore cu_X2_withOneMore 2000 [] 0 [some (.int x0), some (.int x1), none, none] [] M =
  some (.inr (4, [some (.int x0), some (.int x1), some (.int 0), some (.int 0)], [], M)) := rfl
set_option maxRecDepth 100000 in
set_option maxHeartbeats 4000000 in
theorem e_X2_withOneMore_4 (E : ZE) (M : ZM) (x0 : Int32) (x1 : Int32) (x2 : Int32) (x3 : Int32) : zrun E tb_X2_withOneMore cu_X2_withOneMore 2000 [] 4 [some (.int x0), some (.int x1), some (.int x2), some (.int x3)] [] M =
  if 5 ≤ x3 then
  (some (.inl (some (.int x2), M)))
  else
  (if ((zshr x1 x3) &&& 1) = 0 then
    (some (.inr (4, [some (.int x0), some (.int x1), some (.int x2), some (.int (x3 + 1))], [], M)))
    else
    (zck (zin x3 5)
      (some (.inr (4, [some (.int x0), some (.int x1), some (.int (x2 ||| (zshl (x0 &&& (zWITHOUT.getD x3.toNatClampNeg 0)) (zshl 1 x3)))), some (.int (x3 + 1))], [], M))))) := rfl
set_option maxRecDepth 100000 in
set_option maxHeartbeats 4000000 in
theorem e_X2_canServe_0 (E : ZE) (M : ZM) (x1 : Int32) (x2 : Int32) : zrun E tb_X2_canServe cu_X2_canServe 2000 [] 0 [some (.ref 53), some (.int x1), some (.int x2)] [] M =
  zck (zin x1 1024)
  (if ((zushr (M.1 58 x1.toNatClampNeg) x2) &&& 1) = 0 then
    (some (.inl (some (.int 0), M)))
    else
    (some (.inl (some (.int 1), M)))) := rfl
set_option maxRecDepth 100000 in
set_option maxHeartbeats 4000000 in
theorem e_X2_pieceAmongServed_0 (E : ZE) (M : ZM) (b1 : Nat) (hb1 : zsh b1) (x2 : Int32) (x3 : Int32) : zrun E tb_X2_pieceAmongServed cu_X2_pieceAmongServed 2000 [] 0 [some (.ref 53), some (.ref b1), some (.int x2), some (.int x3), none, none, none, none] [] M =
  some (.inr (12, [some (.ref 53), none, some (.int x2), some (.int x3), some (.int (M.1 b1 5)), some (.int x2), some (.int 0), none], [], M)) := by
  rcases hb1 with rfl | rfl <;> rfl
set_option maxRecDepth 100000 in
set_option maxHeartbeats 4000000 in
theorem e_X2_pieceAmongServed_12 (E : ZE) (M : ZM) (x2 : Int32) (x3 : Int32) (x4 : Int32) (x5 : Int32) (x6 : Int32) : zrun E tb_X2_pieceAmongServed cu_X2_pieceAmongServed 2000 [] 12 [some (.ref 53), none, some (.int x2), some (.int x3), some (.int x4), some (.int x5), some (.int x6), none] [] M =
  if x3 < x6 then
  (some (.inl (some (.int 0), M)))
  else
  (if 5 ≤ x6 then
    (some (.inl (some (.int 0), M)))
    else
    (if ((zshr x2 x6) &&& 1) = 0 then
      (some (.inr (12, [some (.ref 53), none, some (.int x2), some (.int x3), some (.int x4), some (.int x5), some (.int (x6 + 1)), none], [], M)))
      else
      ((E.1 33 [.ref 53, .int x4, .int x6, .int (x5 ^^^ (zshl 1 x6))] M).bind fun q1 =>
        if x6 = x3 then
          (some (.inl (some (.int q1.1), q1.2)))
          else
          (some (.inr (12, [some (.ref 53), none, some (.int x2), some (.int x3), some (.int (x4 ^^^ q1.1)), some (.int (x5 ^^^ (zshl 1 x6))), some (.int (x6 + 1)), none], [], q1.2)))))) := rfl
set_option maxRecDepth 100000 in
set_option maxHeartbeats 4000000 in
theorem e_X2_firstPieceLeaving_0 (E : ZE) (M : ZM) (x1 : Int32) (x2 : Int32) (x3 : Int32) : zrun E tb_X2_firstPieceLeaving cu_X2_firstPieceLeaving 2000 [] 0 [some (.ref 53), some (.int x1), some (.int x2), some (.int x3), none, none] [] M =
  some (.inr (3, [some (.ref 53), some (.int x1), some (.int x2), some (.int x3), some (.int 1), none], [], M)) := rfl
set_option maxRecDepth 100000 in
set_option maxHeartbeats 4000000 in
theorem e_X2_firstPieceLeaving_3 (E : ZE) (M : ZM) (x1 : Int32) (x2 : Int32) (x3 : Int32) (x4 : Int32) : zrun E tb_X2_firstPieceLeaving cu_X2_firstPieceLeaving 2000 [] 3 [some (.ref 53), some (.int x1), some (.int x2), some (.int x3), some (.int x4), none] [] M =
  if x1 < x4 then
  (some (.inl (some (.int 0), M)))
  else
  (if (x4 &&& (x1 ^^^ (-1))) = 0 then
    (zck (zin x4 1024)
      (if ((zshr (M.1 57 x4.toNatClampNeg) x2) &&& 1) = 0 then
        (if (0 : Int32) = 0 then
          (some (.inr (3, [some (.ref 53), some (.int x1), some (.int x2), some (.int x3), some (.int (x4 + 1)), none], [], M)))
          else
          ((E.1 31 [.ref 53, .int (x1 ^^^ x4), .int x3] M).bind fun q2 =>
            if q2.1 = 0 then
              (some (.inr (3, [some (.ref 53), some (.int x1), some (.int x2), some (.int x3), some (.int (x4 + 1)), none], [], q2.2)))
              else
              (some (.inl (some (.int x4), q2.2)))))
        else
        (if (1 : Int32) = 0 then
          (some (.inr (3, [some (.ref 53), some (.int x1), some (.int x2), some (.int x3), some (.int (x4 + 1)), none], [], M)))
          else
          ((E.1 31 [.ref 53, .int (x1 ^^^ x4), .int x3] M).bind fun q3 =>
            if q3.1 = 0 then
              (some (.inr (3, [some (.ref 53), some (.int x1), some (.int x2), some (.int x3), some (.int (x4 + 1)), none], [], q3.2)))
              else
              (some (.inl (some (.int x4), q3.2)))))))
    else
    (if (0 : Int32) = 0 then
      (some (.inr (3, [some (.ref 53), some (.int x1), some (.int x2), some (.int x3), some (.int (x4 + 1)), none], [], M)))
      else
      ((E.1 31 [.ref 53, .int (x1 ^^^ x4), .int x3] M).bind fun q1 =>
        if q1.1 = 0 then
          (some (.inr (3, [some (.ref 53), some (.int x1), some (.int x2), some (.int x3), some (.int (x4 + 1)), none], [], q1.2)))
          else
          (some (.inl (some (.int x4), q1.2)))))) := rfl
set_option maxRecDepth 100000 in
set_option maxHeartbeats 4000000 in
theorem e_X2_countCouplings_0 (E : ZE) (M : ZM) (b1 : Nat) (hb1 : zsh b1) : zrun E tb_X2_countCouplings cu_X2_countCouplings 2000 [] 0 [some (.ref 53), some (.ref b1), none, none, none, none] [] M =
  some (.inr (9, [some (.ref 53), some (.ref b1), some (.int 1), none, none, none], [], zw M 58 0 1)) := by
  rcases hb1 with rfl | rfl <;> rfl
set_option maxRecDepth 100000 in
set_option maxHeartbeats 4000000 in
theorem e_X2_countCouplings_9 (E : ZE) (M : ZM) (b1 : Nat) (hb1 : zsh b1) (x2 : Int32) : zrun E tb_X2_countCouplings cu_X2_countCouplings 2000 [] 9 [some (.ref 53), some (.ref b1), some (.int x2), none, none, none] [] M =
  if (M.1 b1 5) < x2 then
  (zck (zin (M.1 b1 5) 1024)
    (some (.inl (some (.int (M.1 58 (M.1 b1 5).toNatClampNeg)), M))))
  else
  (if 1024 ≤ x2 then
    (zck (zin (M.1 b1 5) 1024)
      (some (.inl (some (.int (M.1 58 (M.1 b1 5).toNatClampNeg)), M))))
    else
    ((E.1 232 [.int x2] M).bind fun q1 =>
      some (.inr (37, [some (.ref 53), some (.ref b1), some (.int x2), some (.int q1.1), some (.int 0), some (.int (q1.1 + 1))], [], q1.2)))) := by
  rcases hb1 with rfl | rfl <;> rfl
set_option maxRecDepth 100000 in
set_option maxHeartbeats 4000000 in
theorem e_X2_countCouplings_37 (E : ZE) (M : ZM) (b1 : Nat) (hb1 : zsh b1) (x2 : Int32) (x3 : Int32) (x4 : Int32) (x5 : Int32) : zrun E tb_X2_countCouplings cu_X2_countCouplings 2000 [] 37 [some (.ref 53), some (.ref b1), some (.int x2), some (.int x3), some (.int x4), some (.int x5)] [] M =
  if (M.1 b1 1) ≤ x5 then
  (zck (zin x2 1024)
    (some (.inr (9, [some (.ref 53), some (.ref b1), some (.int (x2 + 1)), none, none, none], [], zw M 58 x2.toNatClampNeg x4))))
  else
  (zck (zin x3 10)
    (if (((M.1 (b1 + 1) x3.toNatClampNeg) &&& x2) &&& (zshl 1 x5)) = 0 then
      (some (.inr (37, [some (.ref 53), some (.ref b1), some (.int x2), some (.int x3), some (.int x4), some (.int (x5 + 1))], [], M)))
      else
      (zck (zin ((x2 ^^^ (zshl 1 x3)) ^^^ (zshl 1 x5)) 1024)
        (some (.inr (37, [some (.ref 53), some (.ref b1), some (.int x2), some (.int x3), some (.int (x4 + (M.1 58 ((x2 ^^^ (zshl 1 x3)) ^^^ (zshl 1 x5)).toNatClampNeg))), some (.int (x5 + 1))], [], M)))))) := by
  rcases hb1 with rfl | rfl <;> rfl
set_option maxRecDepth 100000 in
set_option maxHeartbeats 4000000 in
theorem e_X2_sideOf_0 (E : ZE) (M : ZM) (b1 : Nat) (hb1 : zsh b1) (x2 : Int32) (x3 : Int32) : zrun E tb_X2_sideOf cu_X2_sideOf 2000 [] 0 [some (.ref 53), some (.ref b1), some (.int x2), some (.int x3), none, none, none, none, none, none] [] M =
  some (.inr (9, [some (.ref 53), some (.ref b1), some (.int x2), some (.int x3), some (.int 0), some (.int 0), some (.int 0), none, none, none], [], M)) := by
  rcases hb1 with rfl | rfl <;> rfl
set_option maxRecDepth 100000 in
set_option maxHeartbeats 4000000 in
theorem e_X2_sideOf_9 (E : ZE) (M : ZM) (b1 : Nat) (hb1 : zsh b1) (x2 : Int32) (x3 : Int32) (x4 : Int32) (x5 : Int32) (x6 : Int32) : zrun E tb_X2_sideOf cu_X2_sideOf 2000 [] 9 [some (.ref 53), some (.ref b1), some (.int x2), some (.int x3), some (.int x4), some (.int x5), some (.int x6), none, none, none] [] M =
  if (M.1 53 3) ≤ x6 then
  (some (.inl (some (.int x4), M)))
  else
  (zck (zin x6 275)
    (if ((zshr (M.1 55 x6.toNatClampNeg) x2) &&& 1) = 0 then
      (if (0 : Int32) = 0 then
        (some (.inr (9, [some (.ref 53), some (.ref b1), some (.int x2), some (.int x3), some (.int x4), some (.int x5), some (.int (x6 + 1)), none, none, none], [], M)))
        else
        ((E.1 62 [.ref b1, .int (M.1 55 x6.toNatClampNeg)] M).bind fun q1 =>
          if q1.1 = 0 then
            (some (.inr (9, [some (.ref 53), some (.ref b1), some (.int x2), some (.int x3), some (.int x4), some (.int x5), some (.int (x6 + 1)), none, none, none], [], q1.2)))
            else
            ((E.1 70 [.ref b1, .int (M.1 55 x6.toNatClampNeg)] q1.2).bind fun q2 =>
              if x4 = 0 then
                (some (.inr (9, [some (.ref 53), some (.ref b1), some (.int x2), some (.int x3), some (.int (M.1 55 x6.toNatClampNeg)), some (.int q2.1), some (.int (x6 + 1)), none, none, none], [], q2.2)))
                else
                (if x5 ≤ q2.1 then
                  (some (.inr (9, [some (.ref 53), some (.ref b1), some (.int x2), some (.int x3), some (.int x4), some (.int x5), some (.int (x6 + 1)), none, none, none], [], q2.2)))
                  else
                  (some (.inr (9, [some (.ref 53), some (.ref b1), some (.int x2), some (.int x3), some (.int (M.1 55 x6.toNatClampNeg)), some (.int q2.1), some (.int (x6 + 1)), none, none, none], [], q2.2)))))))
      else
      (if ((zshr (M.1 55 x6.toNatClampNeg) x3) &&& 1) = 0 then
        (if (1 : Int32) = 0 then
          (some (.inr (9, [some (.ref 53), some (.ref b1), some (.int x2), some (.int x3), some (.int x4), some (.int x5), some (.int (x6 + 1)), none, none, none], [], M)))
          else
          ((E.1 62 [.ref b1, .int (M.1 55 x6.toNatClampNeg)] M).bind fun q5 =>
            if q5.1 = 0 then
              (some (.inr (9, [some (.ref 53), some (.ref b1), some (.int x2), some (.int x3), some (.int x4), some (.int x5), some (.int (x6 + 1)), none, none, none], [], q5.2)))
              else
              ((E.1 70 [.ref b1, .int (M.1 55 x6.toNatClampNeg)] q5.2).bind fun q6 =>
                if x4 = 0 then
                  (some (.inr (9, [some (.ref 53), some (.ref b1), some (.int x2), some (.int x3), some (.int (M.1 55 x6.toNatClampNeg)), some (.int q6.1), some (.int (x6 + 1)), none, none, none], [], q6.2)))
                  else
                  (if x5 ≤ q6.1 then
                    (some (.inr (9, [some (.ref 53), some (.ref b1), some (.int x2), some (.int x3), some (.int x4), some (.int x5), some (.int (x6 + 1)), none, none, none], [], q6.2)))
                    else
                    (some (.inr (9, [some (.ref 53), some (.ref b1), some (.int x2), some (.int x3), some (.int (M.1 55 x6.toNatClampNeg)), some (.int q6.1), some (.int (x6 + 1)), none, none, none], [], q6.2)))))))
        else
        (if (0 : Int32) = 0 then
          (some (.inr (9, [some (.ref 53), some (.ref b1), some (.int x2), some (.int x3), some (.int x4), some (.int x5), some (.int (x6 + 1)), none, none, none], [], M)))
          else
          ((E.1 62 [.ref b1, .int (M.1 55 x6.toNatClampNeg)] M).bind fun q3 =>
            if q3.1 = 0 then
              (some (.inr (9, [some (.ref 53), some (.ref b1), some (.int x2), some (.int x3), some (.int x4), some (.int x5), some (.int (x6 + 1)), none, none, none], [], q3.2)))
              else
              ((E.1 70 [.ref b1, .int (M.1 55 x6.toNatClampNeg)] q3.2).bind fun q4 =>
                if x4 = 0 then
                  (some (.inr (9, [some (.ref 53), some (.ref b1), some (.int x2), some (.int x3), some (.int (M.1 55 x6.toNatClampNeg)), some (.int q4.1), some (.int (x6 + 1)), none, none, none], [], q4.2)))
                  else
                  (if x5 ≤ q4.1 then
                    (some (.inr (9, [some (.ref 53), some (.ref b1), some (.int x2), some (.int x3), some (.int x4), some (.int x5), some (.int (x6 + 1)), none, none, none], [], q4.2)))
                    else
                    (some (.inr (9, [some (.ref 53), some (.ref b1), some (.int x2), some (.int x3), some (.int (M.1 55 x6.toNatClampNeg)), some (.int q4.1), some (.int (x6 + 1)), none, none, none], [], q4.2)))))))))) := by
  rcases hb1 with rfl | rfl <;> rfl
set_option maxRecDepth 100000 in
set_option maxHeartbeats 4000000 in
theorem e_X2_casesOfFewLost_0 (E : ZE) (M : ZM) (b1 : Nat) (hb1 : zsh b1) (x2 : Int32) (x3 : Int32) (x4 : Int32) : zrun E tb_X2_casesOfFewLost cu_X2_casesOfFewLost 2000 [] 0 [some (.ref 53), some (.ref b1), some (.int x2), some (.int x3), some (.int x4), none, none, none, none] [] M =
  (E.2.2 236 [.ref 60, .long 0] M).bind fun q1 =>
  some (.inr (18, [some (.ref 53), some (.ref b1), some (.int x2), some (.int x3), some (.int x4), some (.int 0), none, none, none], [], zwl q1 60 0 1)) := by
  rcases hb1 with rfl | rfl <;> rfl
set_option maxRecDepth 100000 in
set_option maxHeartbeats 4000000 in
theorem e_X2_casesOfFewLost_18 (E : ZE) (M : ZM) (b1 : Nat) (hb1 : zsh b1) (x2 : Int32) (x3 : Int32) (x4 : Int32) (x5 : Int32) : zrun E tb_X2_casesOfFewLost cu_X2_casesOfFewLost 2000 [] 18 [some (.ref 53), some (.ref b1), some (.int x2), some (.int x3), some (.int x4), some (.int x5), none, none, none] [] M =
  if (M.1 b1 1) ≤ x5 then
  (some (.inr (104, [some (.ref 53), none, none, some (.int x3), none, some (.long 0), none, some (.int 0), none], [], M)))
  else
  (zck (zin x5 10)
    ((E.1 233 [.int ((M.1 (b1 + 1) x5.toNatClampNeg) &&& x2)] M).bind fun q1 =>
      if q1.1 ≤ 0 then
        (some (.inr (18, [some (.ref 53), some (.ref b1), some (.int x2), some (.int x3), some (.int x4), some (.int (x5 + 1)), none, none, none], [], q1.2)))
        else
        (if (((q1.2.1 b1 5) &&& (x2 ^^^ (-1))) &&& (zshl 1 x5)) = 0 then
          (some (.inr (18, [some (.ref 53), some (.ref b1), some (.int x2), some (.int x3), some (.int x4), some (.int (x5 + 1)), none, none, none], [], q1.2)))
          else
          ((E.2.1 134 [.long (Int32.toInt64 (10 - x4)), .int q1.1] q1.2).bind fun q2 =>
            (E.2.1 134 [.long 10, .int q1.1] q2.2).bind fun q3 =>
              (E.2.2 37 [.ref 53, .long q2.1, .long (q3.1 - q2.1)] q3.2).bind fun q4 =>
                some (.inr (18, [some (.ref 53), some (.ref b1), some (.int x2), some (.int x3), some (.int x4), some (.int (x5 + 1)), none, none, none], [], q4)))))) := by
  rcases hb1 with rfl | rfl <;> rfl
set_option maxRecDepth 100000 in
set_option maxHeartbeats 4000000 in
theorem e_X2_casesOfFewLost_104 (E : ZE) (M : ZM) (x3 : Int32) (x5 : Int64) (x7 : Int32) : zrun E tb_X2_casesOfFewLost cu_X2_casesOfFewLost 2000 [] 104 [some (.ref 53), none, none, some (.int x3), none, some (.long x5), none, some (.int x7), none] [] M =
  if x3 < x7 then
  (some (.inl (some (.long x5), M)))
  else
  (if 10 < x7 then
    (some (.inl (some (.long x5), M)))
    else
    (zck (zin x7 11)
      (some (.inr (104, [some (.ref 53), none, none, some (.int x3), none, some (.long (x5 + (M.2 60 x7.toNatClampNeg))), none, some (.int (x7 + 1)), none], [], M))))) := rfl
set_option maxRecDepth 100000 in
set_option maxHeartbeats 4000000 in
theorem e_X2_addStamp_0 (E : ZE) (M : ZM) (x1 : Int64) (x3 : Int64) : zrun E tb_X2_addStamp cu_X2_addStamp 2000 [] 0 [some (.ref 53), some (.long x1), none, some (.long x3), none, none] [] M =
  some (.inr (4, [some (.ref 53), some (.long x1), none, some (.long x3), none, some (.int 10)], [], M)) := rfl
set_option maxRecDepth 100000 in
set_option maxHeartbeats 4000000 in
theorem e_X2_addStamp_4 (E : ZE) (M : ZM) (x1 : Int64) (x3 : Int64) (x5 : Int32) : zrun E tb_X2_addStamp cu_X2_addStamp 2000 [] 4 [some (.ref 53), some (.long x1), none, some (.long x3), none, some (.int x5)] [] M =
  if x5 ≤ 0 then
  (some (.inl (none, zwl M 60 0 ((M.2 60 0) * x1))))
  else
  (zck (zin x5 11)
    (zck (zin (x5 - 1) 11)
      (zck (zin x5 11)
        (some (.inr (4, [some (.ref 53), some (.long x1), none, some (.long x3), none, some (.int (x5 + (-1)))], [], zwl M 60 x5.toNatClampNeg (((M.2 60 x5.toNatClampNeg) * x1) + ((M.2 60 (x5 - 1).toNatClampNeg) * x3)))))))) := rfl

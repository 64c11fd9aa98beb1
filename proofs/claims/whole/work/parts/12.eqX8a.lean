set_option maxRecDepth 100000 in
set_option maxHeartbeats 4000000 in
theorem e_X8_in_0 (E : ZE) (M : ZM) (x0 : Int32) (x1 : Int32) (x2 : Int32) : zrun E tb_X8_in cu_X8_in 2000 [] 0 [some (.int x0), some (.int x1), some (.int x2)] [] M =
  if x0 < x1 then
  (some (.inl (some (.int 0), M)))
  else
  (if x2 < x0 then
    (some (.inl (some (.int 0), M)))
    else
    (some (.inl (some (.int 1), M)))) := rfl
set_option maxRecDepth 100000 in
set_option maxHeartbeats 4000000 in
theorem e_X8_has_0 (E : ZE) (M : ZM) (x0 : Int32) (x1 : Int32) : zrun E tb_X8_has cu_X8_has 2000 [] 0 [some (.int x0), some (.int x1)] [] M =
  if ((zshr x0 x1) &&& 1) = 1 then
  (some (.inl (some (.int 1), M)))
  else
  (some (.inl (some (.int 0), M))) := rfl
set_option maxRecDepth 100000 in
set_option maxHeartbeats 4000000 in
theorem e_X8_ones_0 (E : ZE) (M : ZM) (x0 : Int32) : zrun E tb_X8_ones cu_X8_ones 2000 [] 0 [some (.int x0), none, none] [] M =
  some (.inr (4, [some (.int x0), some (.int 0), some (.int 0)], [], M)) := rfl
set_option maxRecDepth 100000 in
set_option maxHeartbeats 4000000 in
theorem e_X8_ones_4 (E : ZE) (M : ZM) (x0 : Int32) (x1 : Int32) (x2 : Int32) : zrun E tb_X8_ones cu_X8_ones 2000 [] 4 [some (.int x0), some (.int x1), some (.int x2)] [] M =
  if 10 ≤ x2 then
  (some (.inl (some (.int x1), M)))
  else
  (some (.inr (4, [some (.int x0), some (.int (x1 + ((zshr x0 x2) &&& 1))), some (.int (x2 + 1))], [], M))) := rfl
set_option maxRecDepth 100000 in
set_option maxHeartbeats 4000000 in
theorem e_X8_isRow_0 (E : ZE) (M : ZM) (x0 : Int32) : zrun E tb_X8_isRow cu_X8_isRow 2000 [] 0 [some (.int x0)] [] M =
  (E.1 143 [.int x0, .int 0, .int 7] M).bind fun q1 =>
  zck (zb01 q1.1)
    (some (.inl (some (.int q1.1), q1.2))) := rfl
set_option maxRecDepth 100000 in
set_option maxHeartbeats 4000000 in
theorem e_X8_finds_0 (E : ZE) (M : ZM) (x1 : Int32) : zrun E tb_X8_finds cu_X8_finds 2000 [] 0 [some (.ref 66), some (.int x1)] [] M =
  some (.inl (some (.int ((-1000010) - x1)), zw M 66 4 x1)) := rfl
set_option maxRecDepth 100000 in
set_option maxHeartbeats 4000000 in
theorem e_X8_row_0 (E : ZE) (M : ZM) (x1 : Int32) (x2 : Int32) (x3 : Int32) : zrun E tb_X8_row cu_X8_row 2000 [] 0 [some (.ref 66), some (.int x1), some (.int x2), some (.int x3), none] [] M =
  (E.1 146 [.int x1] M).bind fun q1 =>
  if q1.1 = 0 then
    (some (.inl (some (.int (-1000001)), q1.2)))
    else
    ((E.1 143 [.int x2, .int 0, .int 2] q1.2).bind fun q2 =>
      if q2.1 = 0 then
        (some (.inl (some (.int (-1000001)), q2.2)))
        else
        (if x3 ≤ 40 then
          (if 0 ≤ x3 then
            (zck (zin x1 8)
                (zck (zin x1 8)
                  (some (.inr (57, [some (.ref 66), some (.int x1), none, some (.int x3), some (.int 0)], [], zw (zw (zw q2.2 66 4 0) 67 x1.toNatClampNeg x2) 68 x1.toNatClampNeg x3)))))
            else
            ((E.1 147 [.ref 66, .int 4] q2.2).bind fun q3 =>
              some (.inl (some (.int q3.1), q3.2))))
          else
          (some (.inl (some (.int (-1000001)), q2.2))))) := rfl
set_option maxRecDepth 100000 in
set_option maxHeartbeats 4000000 in
theorem e_X8_row_57 (E : ZE) (M : ZM) (x1 : Int32) (x3 : Int32) (x4 : Int32) : zrun E tb_X8_row cu_X8_row 2000 [] 57 [some (.ref 66), some (.int x1), none, some (.int x3), some (.int x4)] [] M =
  if 40 ≤ x4 then
  (some (.inl (some (.int x3), M)))
  else
  (zck (zin ((40 * x1) + x4) 320)
    (some (.inr (57, [some (.ref 66), some (.int x1), none, some (.int x3), some (.int (x4 + 1))], [], zw M 69 ((40 * x1) + x4).toNatClampNeg 0)))) := rfl
set_option maxRecDepth 100000 in
set_option maxHeartbeats 4000000 in
theorem e_X8_set_0 (E : ZE) (M : ZM) (x1 : Int32) (x2 : Int32) (x3 : Int32) : zrun E tb_X8_set cu_X8_set 2000 [] 0 [some (.ref 66), some (.int x1), some (.int x2), some (.int x3), none] [] M =
  (E.1 146 [.int x1] M).bind fun q1 =>
  if q1.1 = 0 then
    (some (.inl (some (.int (-1000001)), q1.2)))
    else
    (zck (zin x1 8)
      (if 0 ≤ (q1.2.1 68 x1.toNatClampNeg) then
        (zck (zin x1 8)
          ((E.1 143 [.int x2, .int 0, .int ((q1.2.1 68 x1.toNatClampNeg) - 1)] q1.2).bind fun q2 =>
            if q2.1 = 0 then
              ((E.1 147 [.ref 66, .int 2] q2.2).bind fun q3 =>
                some (.inl (some (.int q3.1), q3.2)))
              else
              (zck (zin x1 8)
                  (if (q2.2.1 67 x1.toNatClampNeg) = 0 then
                    (zck (zin ((40 * x1) + x2) 320)
                      (some (.inl (some (.int x3.toInt8.toInt32), zw (zw q2.2 66 4 0) 69 ((40 * x1) + x2).toNatClampNeg x3.toInt8.toInt32))))
                    else
                    (zck (zin x1 8)
                      (if (q2.2.1 67 x1.toNatClampNeg) = 1 then
                        (zck (zin ((40 * x1) + x2) 320)
                          (some (.inl (some (.int x3.toInt16.toInt32), zw (zw q2.2 66 4 0) 69 ((40 * x1) + x2).toNatClampNeg x3.toInt16.toInt32))))
                        else
                        (zck (zin ((40 * x1) + x2) 320)
                          (some (.inl (some (.int x3), zw (zw q2.2 66 4 0) 69 ((40 * x1) + x2).toNatClampNeg x3))))))))))
        else
        ((E.1 147 [.ref 66, .int 1] q1.2).bind fun q4 =>
          some (.inl (some (.int q4.1), q4.2))))) := rfl
set_option maxRecDepth 100000 in
set_option maxHeartbeats 4000000 in
theorem e_X8_isPlace_0 (E : ZE) (M : ZM) (x1 : Int32) (x2 : Int32) (x3 : Int32) : zrun E tb_X8_isPlace cu_X8_isPlace 2000 [] 0 [some (.ref 66), some (.int x1), some (.int x2), some (.int x3)] [] M =
  if x2 < 0 then
  (some (.inl (some (.int 0), M)))
  else
  (if x3 < 0 then
    (some (.inl (some (.int 0), M)))
    else
    (zck (zin x1 8)
      (if (M.1 68 x1.toNatClampNeg) < x3 then
        (some (.inl (some (.int 0), M)))
        else
        (zck (zin x1 8)
          (if ((M.1 68 x1.toNatClampNeg) - x3) < x2 then
            (some (.inl (some (.int 0), M)))
            else
            (some (.inl (some (.int 1), M)))))))) := rfl
set_option maxRecDepth 100000 in
set_option maxHeartbeats 4000000 in
theorem e_X8_copy_0 (E : ZE) (M : ZM) (x1 : Int32) (x2 : Int32) (x3 : Int32) (x4 : Int32) (x5 : Int32) : zrun E tb_X8_copy cu_X8_copy 2000 [] 0 [some (.ref 66), some (.int x1), some (.int x2), some (.int x3), some (.int x4), some (.int x5), none] [] M =
  (E.1 146 [.int x1] M).bind fun q1 =>
  if q1.1 = 0 then
    (some (.inl (some (.int (-1000001)), q1.2)))
    else
    ((E.1 146 [.int x3] q1.2).bind fun q2 =>
      if q2.1 = 0 then
        (some (.inl (some (.int (-1000001)), q2.2)))
        else
        (zck (zin x1 8)
          (if (q2.2.1 68 x1.toNatClampNeg) < 0 then
            ((E.1 147 [.ref 66, .int 1] q2.2).bind fun q3 =>
              some (.inl (some (.int q3.1), q3.2)))
            else
            (zck (zin x3 8)
              (if 0 ≤ (q2.2.1 68 x3.toNatClampNeg) then
                (zck (zin x1 8)
                  (zck (zin x3 8)
                    (if (q2.2.1 67 x1.toNatClampNeg) = (q2.2.1 67 x3.toNatClampNeg) then
                      ((E.1 150 [.ref 66, .int x1, .int x2, .int x5] q2.2).bind fun q4 =>
                        if q4.1 = 0 then
                          ((E.1 147 [.ref 66, .int 2] q4.2).bind fun q5 =>
                            some (.inl (some (.int q5.1), q5.2)))
                          else
                          ((E.1 150 [.ref 66, .int x3, .int x4, .int x5] q4.2).bind fun q6 =>
                            if q6.1 = 0 then
                              ((E.1 147 [.ref 66, .int 2] q6.2).bind fun q7 =>
                                some (.inl (some (.int q7.1), q7.2)))
                              else
                              (some (.inr (99, [some (.ref 66), some (.int x1), some (.int x2), some (.int x3), some (.int x4), some (.int x5), some (.int 0)], [], zw q6.2 66 4 0)))))
                      else
                      ((E.1 147 [.ref 66, .int 5] q2.2).bind fun q8 =>
                        some (.inl (some (.int q8.1), q8.2))))))
                else
                ((E.1 147 [.ref 66, .int 1] q2.2).bind fun q9 =>
                  some (.inl (some (.int q9.1), q9.2)))))))) := rfl
set_option maxRecDepth 100000 in
set_option maxHeartbeats 4000000 in
theorem e_X8_copy_99 (E : ZE) (M : ZM) (x1 : Int32) (x2 : Int32) (x3 : Int32) (x4 : Int32) (x5 : Int32) (x6 : Int32) : zrun E tb_X8_copy cu_X8_copy 2000 [] 99 [some (.ref 66), some (.int x1), some (.int x2), some (.int x3), some (.int x4), some (.int x5), some (.int x6)] [] M =
  if x5 ≤ x6 then
  (some (.inr (136, [some (.ref 66), none, none, some (.int x3), some (.int x4), some (.int x5), some (.int 0)], [], M)))
  else
  (zck (zin (((40 * x1) + x2) + x6) 320)
    (zck (zin x6 40)
      (some (.inr (99, [some (.ref 66), some (.int x1), some (.int x2), some (.int x3), some (.int x4), some (.int x5), some (.int (x6 + 1))], [], zw M 70 x6.toNatClampNeg (M.1 69 (((40 * x1) + x2) + x6).toNatClampNeg)))))) := rfl
set_option maxRecDepth 100000 in
set_option maxHeartbeats 4000000 in
theorem e_X8_copy_136 (E : ZE) (M : ZM) (x3 : Int32) (x4 : Int32) (x5 : Int32) (x6 : Int32) : zrun E tb_X8_copy cu_X8_copy 2000 [] 136 [some (.ref 66), none, none, some (.int x3), some (.int x4), some (.int x5), some (.int x6)] [] M =
  if x5 ≤ x6 then
  (some (.inl (some (.int x5), M)))
  else
  (zck (zin x6 40)
    (zck (zin (((40 * x3) + x4) + x6) 320)
      (some (.inr (136, [some (.ref 66), none, none, some (.int x3), some (.int x4), some (.int x5), some (.int (x6 + 1))], [], zw M 69 (((40 * x3) + x4) + x6).toNatClampNeg (M.1 70 x6.toNatClampNeg)))))) := rfl
set_option maxRecDepth 100000 in
set_option maxHeartbeats 4000000 in
theorem e_X8_drop_0 (E : ZE) (M : ZM) (x1 : Int32) : zrun E tb_X8_drop cu_X8_drop 2000 [] 0 [some (.ref 66), some (.int x1), none] [] M =
  (E.1 146 [.int x1] M).bind fun q1 =>
  if q1.1 = 0 then
    (some (.inl (some (.int (-1000001)), q1.2)))
    else
    (zck (zin x1 8)
      (if 0 ≤ (q1.2.1 68 x1.toNatClampNeg) then
        (zck (zin x1 8)
            (zck (zin x1 8)
              (some (.inl (some (.int (q1.2.1 68 x1.toNatClampNeg)), zw (zw q1.2 66 4 0) 68 x1.toNatClampNeg (-1))))))
        else
        ((E.1 147 [.ref 66, .int 1] q1.2).bind fun q2 =>
          some (.inl (some (.int q2.1), q2.2))))) := rfl
set_option maxRecDepth 100000 in
set_option maxHeartbeats 4000000 in
theorem e_X8_feed_0 (E : ZE) (M : ZM) (x1 : Int32) : zrun E tb_X8_feed cu_X8_feed 2000 [] 0 [some (.ref 66), some (.int x1)] [] M =
  (E.1 143 [.int x1, .int 0, .int 255] M).bind fun q1 =>
  if q1.1 = 0 then
    (some (.inl (some (.int (-1000001)), q1.2)))
    else
    (if (q1.2.1 66 6) = 120 then
      (some (.inl (some (.int (-1000003)), q1.2)))
      else
      (zck (zin (q1.2.1 66 6) 120)
        (some (.inl (some (.int ((q1.2.1 66 6) + 1)), zw (zw q1.2 71 (q1.2.1 66 6).toNatClampNeg x1) 66 6 ((q1.2.1 66 6) + 1)))))) := rfl
set_option maxRecDepth 100000 in
set_option maxHeartbeats 4000000 in
theorem e_X8_byteAt_0 (E : ZE) (M : ZM) (x1 : Int32) : zrun E tb_X8_byteAt cu_X8_byteAt 2000 [] 0 [some (.ref 66), some (.int x1)] [] M =
  if (M.1 66 6) ≤ x1 then
  (some (.inl (some (.int (-1)), M)))
  else
  (zck (zin x1 120)
    (some (.inl (some (.int (M.1 71 x1.toNatClampNeg)), M)))) := rfl
set_option maxRecDepth 100000 in
set_option maxHeartbeats 4000000 in
theorem e_X8_isFigure_0 (E : ZE) (M : ZM) (x0 : Int32) : zrun E tb_X8_isFigure cu_X8_isFigure 2000 [] 0 [some (.int x0)] [] M =
  (E.1 143 [.int x0, .int 48, .int 57] M).bind fun q1 =>
  zck (zb01 q1.1)
    (some (.inl (some (.int q1.1), q1.2))) := rfl
set_option maxRecDepth 100000 in
set_option maxHeartbeats 4000000 in
theorem e_X8_wrongs_0 (E : ZE) (M : ZM) (x1 : Int32) : zrun E tb_X8_wrongs cu_X8_wrongs 2000 [] 0 [some (.ref 66), some (.int x1)] [] M =
  some (.inl (some (.int 0), zw M 66 9 x1)) := rfl
set_option maxRecDepth 100000 in
set_option maxHeartbeats 4000000 in
theorem e_X8_takes_0 (E : ZE) (M : ZM) (x1 : Int32) : zrun E tb_X8_takes cu_X8_takes 2000 [] 0 [some (.ref 66), some (.int x1)] [] M =
  (E.1 154 [.ref 66, .int (M.1 66 7)] (zw M 66 8 (M.1 66 7))).bind fun q1 =>
    if q1.1 = x1 then
      (some (.inl (some (.int 1), zw q1.2 66 7 ((q1.2.1 66 7) + 1))))
      else
      ((E.1 156 [.ref 66, .int 1] q1.2).bind fun q2 =>
        zck (zb01 q2.1)
          (some (.inl (some (.int q2.1), q2.2)))) := rfl
set_option maxRecDepth 100000 in
set_option maxHeartbeats 4000000 in
theorem e_X8_number_0 (E : ZE) (M : ZM) (x1 : Int32) (x2 : Int32) (x3 : Int32) : zrun E tb_X8_number cu_X8_number 2000 [] 0 [some (.ref 66), some (.int x1), some (.int x2), some (.int x3), none] [] M =
  some (.inr (11, [some (.ref 66), some (.int x1), some (.int x2), some (.int x3), some (.int 0)], [], zw M 66 8 (M.1 66 7))) := rfl
set_option maxRecDepth 100000 in
set_option maxHeartbeats 4000000 in
theorem e_X8_number_11 (E : ZE) (M : ZM) (x1 : Int32) (x2 : Int32) (x3 : Int32) (x4 : Int32) : zrun E tb_X8_number cu_X8_number 2000 [] 11 [some (.ref 66), some (.int x1), some (.int x2), some (.int x3), some (.int x4)] [] M =
  (E.1 154 [.ref 66, .int (M.1 66 7)] M).bind fun q1 =>
  (E.1 155 [.int q1.1] q1.2).bind fun q2 =>
    if q2.1 = 0 then
      (if (q2.2.1 66 7) = (q2.2.1 66 8) then
        ((E.1 156 [.ref 66, .int 1] q2.2).bind fun q3 =>
          zck (zb01 q3.1)
            (some (.inl (some (.int q3.1), q3.2))))
        else
        (if (q2.2.1 66 7) ≤ ((q2.2.1 66 8) + 2) then
          (zck (zin x1 41)
            ((E.1 143 [.int x4, .int x2, .int x3] (zw q2.2 73 x1.toNatClampNeg x4)).bind fun q4 =>
              if q4.1 = 0 then
                ((E.1 156 [.ref 66, .int 2] q4.2).bind fun q5 =>
                  if q5.1 = 0 then
                    (some (.inl (some (.int 0), q5.2)))
                    else
                    (some (.inl (some (.int 1), q5.2))))
                else
                (some (.inl (some (.int 1), q4.2)))))
          else
          ((E.1 156 [.ref 66, .int 1] q2.2).bind fun q6 =>
            zck (zb01 q6.1)
              (some (.inl (some (.int q6.1), q6.2))))))
      else
      (if ((q2.2.1 66 8) + 2) ≤ (q2.2.1 66 7) then
        (some (.inr (11, [some (.ref 66), some (.int x1), some (.int x2), some (.int x3), some (.int x4)], [], zw q2.2 66 7 ((q2.2.1 66 7) + 1))))
        else
        (zck (zin (q2.2.1 66 7) 120)
          (some (.inr (11, [some (.ref 66), some (.int x1), some (.int x2), some (.int x3), some (.int (((10 * x4) + (q2.2.1 71 (q2.2.1 66 7).toNatClampNeg)) - 48))], [], zw q2.2 66 7 ((q2.2.1 66 7) + 1)))))) := rfl
set_option maxRecDepth 100000 in
set_option maxHeartbeats 4000000 in
theorem e_X8_kindBy_0 (E : ZE) (M : ZM) (x0 : Int32) : zrun E tb_X8_kindBy cu_X8_kindBy 2000 [] 0 [some (.int x0)] [] M =
  if x0 = 111 then
  (some (.inl (some (.int 1), M)))
  else
  (if x0 = 117 then
    (some (.inl (some (.int 2), M)))
    else
    (if x0 = 100 then
      (some (.inl (some (.int 3), M)))
      else
      (if x0 = 97 then
        (some (.inl (some (.int 4), M)))
        else
        (if x0 = 101 then
          (some (.inl (some (.int 5), M)))
          else
          (some (.inl (some (.int 0), M))))))) := rfl
set_option maxRecDepth 100000 in
set_option maxHeartbeats 4000000 in
theorem e_X8_readsLaw_0 (E : ZE) (M : ZM) : zrun E tb_X8_readsLaw cu_X8_readsLaw 2000 [] 0 [some (.ref 66), none] [] M =
  (E.1 157 [.ref 66, .int 119] M).bind fun q1 =>
  if q1.1 = 0 then
    (some (.inl (some (.int 0), q1.2)))
    else
    ((E.1 158 [.ref 66, .int 1, .int 1, .int 6] q1.2).bind fun q2 =>
      if q2.1 = 0 then
        (some (.inl (some (.int 0), q2.2)))
        else
        ((E.1 157 [.ref 66, .int 44] q2.2).bind fun q3 =>
          if q3.1 = 0 then
            (some (.inl (some (.int 0), q3.2)))
            else
            (zck (!(decide (q3.2.1 73 1 = 0)))
              (if 6 ≤ (10 / (q3.2.1 73 1)) then
                ((E.1 158 [.ref 66, .int 0, .int 1, .int 6] q3.2).bind fun q4 =>
                  if q4.1 = 0 then
                    (some (.inl (some (.int 0), q4.2)))
                    else
                    ((E.1 157 [.ref 66, .int 44] q4.2).bind fun q5 =>
                      if q5.1 = 0 then
                        (some (.inl (some (.int 0), q5.2)))
                        else
                        ((E.1 158 [.ref 66, .int 23, .int 0, .int 9] q5.2).bind fun q6 =>
                          if q6.1 = 0 then
                            (some (.inl (some (.int 0), q6.2)))
                            else
                            ((E.1 157 [.ref 66, .int 59] q6.2).bind fun q7 =>
                              if q7.1 = 0 then
                                (some (.inl (some (.int 0), q7.2)))
                                else
                                (some (.inl (some (.int 1), q7.2)))))))
                else
                ((E.1 158 [.ref 66, .int 0, .int 1, .int (10 / (q3.2.1 73 1))] q3.2).bind fun q8 =>
                  if q8.1 = 0 then
                    (some (.inl (some (.int 0), q8.2)))
                    else
                    ((E.1 157 [.ref 66, .int 44] q8.2).bind fun q9 =>
                      if q9.1 = 0 then
                        (some (.inl (some (.int 0), q9.2)))
                        else
                        ((E.1 158 [.ref 66, .int 23, .int 0, .int 9] q9.2).bind fun q10 =>
                          if q10.1 = 0 then
                            (some (.inl (some (.int 0), q10.2)))
                            else
                            ((E.1 157 [.ref 66, .int 59] q10.2).bind fun q11 =>
                              if q11.1 = 0 then
                                (some (.inl (some (.int 0), q11.2)))
                                else
                                (some (.inl (some (.int 1), q11.2))))))))))) := rfl
set_option maxRecDepth 100000 in
set_option maxHeartbeats 4000000 in
theorem e_X8_readsStamp_0 (E : ZE) (M : ZM) (x1 : Int32) : zrun E tb_X8_readsStamp cu_X8_readsStamp 2000 [] 0 [some (.ref 66), some (.int x1), none] [] M =
  (E.1 154 [.ref 66, .int (M.1 66 7)] (zw M 66 8 (M.1 66 7))).bind fun q1 =>
    (E.1 159 [.int q1.1] q1.2).bind fun q2 =>
      if q2.1 = 0 then
        ((E.1 156 [.ref 66, .int 1] q2.2).bind fun q5 =>
          zck (zb01 q5.1)
            (some (.inl (some (.int q5.1), q5.2))))
        else
        (zck (zin (3 + x1) 41)
          ((E.1 158 [.ref 66, .int (31 + x1), .int 0, .int 9] (zw (zw q2.2 73 (3 + x1).toNatClampNeg q2.1) 66 7 ((q2.2.1 66 7) + 1))).bind fun q3 =>
              if q3.1 = 0 then
                (some (.inl (some (.int 0), q3.2)))
                else
                ((E.1 157 [.ref 66, .int 59] q3.2).bind fun q4 =>
                  if q4.1 = 0 then
                    (some (.inl (some (.int 0), q4.2)))
                    else
                    (some (.inl (some (.int 1), q4.2)))))) := rfl
set_option maxRecDepth 100000 in
set_option maxHeartbeats 4000000 in
theorem e_X8_readsCustomer_0 (E : ZE) (M : ZM) : zrun E tb_X8_readsCustomer cu_X8_readsCustomer 2000 [] 0 [some (.ref 66), none] [] M =
  (E.1 157 [.ref 66, .int 110] M).bind fun q1 =>
  if q1.1 = 0 then
    (if (M.1 73 2) = 0 then
      ((E.1 154 [.ref 66, .int (q1.2.1 66 7)] q1.2).bind fun q7 =>
        (E.1 159 [.int q7.1] q7.2).bind fun q8 =>
          if q8.1 ≤ 0 then
            (some (.inl (some (.int 0), q8.2)))
            else
            ((E.1 156 [.ref 66, .int 3] q8.2).bind fun q9 =>
              if q9.1 = 0 then
                (some (.inl (some (.int 0), q9.2)))
                else
                (some (.inl (some (.int 1), q9.2)))))
      else
      (some (.inl (some (.int 0), q1.2))))
    else
    (if (M.1 73 2) = 5 then
      ((E.1 156 [.ref 66, .int 3] q1.2).bind fun q6 =>
        zck (zb01 q6.1)
          (some (.inl (some (.int q6.1), q6.2))))
      else
      ((E.1 158 [.ref 66, .int (13 + (M.1 73 2)), .int 0, .int 99] (zw q1.2 73 2 ((q1.2.1 73 2) + 1))).bind fun q2 =>
        if q2.1 = 0 then
          (some (.inl (some (.int 0), q2.2)))
          else
          ((E.1 157 [.ref 66, .int 44] q2.2).bind fun q3 =>
            if q3.1 = 0 then
              (some (.inl (some (.int 0), q3.2)))
              else
              (zck (zin (13 + (M.1 73 2)) 41)
                ((E.1 158 [.ref 66, .int (18 + (M.1 73 2)), .int (q3.2.1 73 (13 + (M.1 73 2)).toNatClampNeg), .int 99] q3.2).bind fun q4 =>
                  if q4.1 = 0 then
                    (some (.inl (some (.int 0), q4.2)))
                    else
                    ((E.1 157 [.ref 66, .int 59] q4.2).bind fun q5 =>
                      if q5.1 = 0 then
                        (some (.inl (some (.int 0), q5.2)))
                        else
                        (some (.inl (some (.int 1), q5.2))))))))) := rfl
set_option maxRecDepth 100000 in
set_option maxHeartbeats 4000000 in
theorem e_X8_reads_0 (E : ZE) (M : ZM) : zrun E tb_X8_reads cu_X8_reads 2000 [] 0 [some (.ref 66), none] [] M =
  some (.inr (2, [some (.ref 66), some (.int 0)], [], M)) := rfl
set_option maxRecDepth 100000 in
set_option maxHeartbeats 4000000 in
theorem e_X8_reads_2 (E : ZE) (M : ZM) (x1 : Int32) : zrun E tb_X8_reads cu_X8_reads 2000 [] 2 [some (.ref 66), some (.int x1)] [] M =
  if 41 ≤ x1 then
  ((E.1 160 [.ref 66] (zw M 66 7 0)).bind fun q1 =>
      if q1.1 = 0 then
        (some (.inl (some (.int 0), q1.2)))
        else
        (some (.inr (52, [some (.ref 66), some (.int 0)], [], zw q1.2 73 0 ((q1.2.1 73 0) * (q1.2.1 73 1))))))
  else
  (zck (zin x1 41)
    (some (.inr (2, [some (.ref 66), some (.int (x1 + 1))], [], zw M 73 x1.toNatClampNeg 0)))) := rfl
set_option maxRecDepth 100000 in
set_option maxHeartbeats 4000000 in
theorem e_X8_reads_52 (E : ZE) (M : ZM) (x1 : Int32) : zrun E tb_X8_reads cu_X8_reads 2000 [] 52 [some (.ref 66), some (.int x1)] [] M =
  if (M.1 73 0) ≤ x1 then
  (some (.inr (78, [some (.ref 66), none], [], M)))
  else
  ((E.1 161 [.ref 66, .int x1] M).bind fun q1 =>
    if q1.1 = 0 then
      (some (.inl (some (.int 0), q1.2)))
      else
      (some (.inr (52, [some (.ref 66), some (.int (x1 + 1))], [], q1.2)))) := rfl
set_option maxRecDepth 100000 in
set_option maxHeartbeats 4000000 in
theorem e_X8_reads_78 (E : ZE) (M : ZM) : zrun E tb_X8_reads cu_X8_reads 2000 [] 78 [some (.ref 66), none] [] M =
  if (M.1 66 6) ≤ (M.1 66 7) then
  (some (.inl (some (.int 1), M)))
  else
  ((E.1 162 [.ref 66] M).bind fun q1 =>
    if q1.1 = 0 then
      (some (.inl (some (.int 0), q1.2)))
      else
      (some (.inr (78, [some (.ref 66), none], [], q1.2)))) := rfl
set_option maxRecDepth 100000 in
set_option maxHeartbeats 4000000 in
theorem e_X8_joins_0 (E : ZE) (M : ZM) : zrun E tb_X8_joins cu_X8_joins 2000 [] 0 [some (.ref 66), none, none, none, none] [] M =
  some (.inr (16, [some (.ref 66), some (.int (M.1 72 0)), some (.int (M.1 72 1)), some (.int 0), none], [], M)) := rfl
set_option maxRecDepth 100000 in
set_option maxHeartbeats 4000000 in
theorem e_X8_joins_16 (E : ZE) (M : ZM) (x1 : Int32) (x2 : Int32) (x3 : Int32) : zrun E tb_X8_joins cu_X8_joins 2000 [] 16 [some (.ref 66), some (.int x1), some (.int x2), some (.int x3), none] [] M =
  if x1 ≤ x3 then
  (some (.inl (none, M)))
  else
  (zck (!(decide (x2 = 0)))
    (if (zrem x3 x2) ≤ 0 then
      (zck (!(decide (x2 = 0)))
        (if (x2 - 1) ≤ (zrem x3 x2) then
          (if x3 < x2 then
            (if x1 ≤ (x3 + x2) then
              (zck (zin x3 10)
                (some (.inr (16, [some (.ref 66), some (.int x1), some (.int x2), some (.int (x3 + 1)), none], [], zw M 74 x3.toNatClampNeg (((0 ||| 0) ||| 0) ||| 0)))))
              else
              (zck (zin x3 10)
                (some (.inr (16, [some (.ref 66), some (.int x1), some (.int x2), some (.int (x3 + 1)), none], [], zw M 74 x3.toNatClampNeg (((0 ||| 0) ||| 0) ||| (zshl 1 (x3 + x2))))))))
            else
            (if x1 ≤ (x3 + x2) then
              (zck (zin x3 10)
                (some (.inr (16, [some (.ref 66), some (.int x1), some (.int x2), some (.int (x3 + 1)), none], [], zw M 74 x3.toNatClampNeg (((0 ||| 0) ||| (zshl 1 (x3 - x2))) ||| 0)))))
              else
              (zck (zin x3 10)
                (some (.inr (16, [some (.ref 66), some (.int x1), some (.int x2), some (.int (x3 + 1)), none], [], zw M 74 x3.toNatClampNeg (((0 ||| 0) ||| (zshl 1 (x3 - x2))) ||| (zshl 1 (x3 + x2)))))))))
          else
          (if x3 < x2 then
            (if x1 ≤ (x3 + x2) then
              (zck (zin x3 10)
                (some (.inr (16, [some (.ref 66), some (.int x1), some (.int x2), some (.int (x3 + 1)), none], [], zw M 74 x3.toNatClampNeg (((0 ||| (zshl 1 (x3 + 1))) ||| 0) ||| 0)))))
              else
              (zck (zin x3 10)
                (some (.inr (16, [some (.ref 66), some (.int x1), some (.int x2), some (.int (x3 + 1)), none], [], zw M 74 x3.toNatClampNeg (((0 ||| (zshl 1 (x3 + 1))) ||| 0) ||| (zshl 1 (x3 + x2))))))))
            else
            (if x1 ≤ (x3 + x2) then
              (zck (zin x3 10)
                (some (.inr (16, [some (.ref 66), some (.int x1), some (.int x2), some (.int (x3 + 1)), none], [], zw M 74 x3.toNatClampNeg (((0 ||| (zshl 1 (x3 + 1))) ||| (zshl 1 (x3 - x2))) ||| 0)))))
              else
              (zck (zin x3 10)
                (some (.inr (16, [some (.ref 66), some (.int x1), some (.int x2), some (.int (x3 + 1)), none], [], zw M 74 x3.toNatClampNeg (((0 ||| (zshl 1 (x3 + 1))) ||| (zshl 1 (x3 - x2))) ||| (zshl 1 (x3 + x2)))))))))))
      else
      (zck (!(decide (x2 = 0)))
        (if (x2 - 1) ≤ (zrem x3 x2) then
          (if x3 < x2 then
            (if x1 ≤ (x3 + x2) then
              (zck (zin x3 10)
                (some (.inr (16, [some (.ref 66), some (.int x1), some (.int x2), some (.int (x3 + 1)), none], [], zw M 74 x3.toNatClampNeg ((((zshl 1 (x3 - 1)) ||| 0) ||| 0) ||| 0)))))
              else
              (zck (zin x3 10)
                (some (.inr (16, [some (.ref 66), some (.int x1), some (.int x2), some (.int (x3 + 1)), none], [], zw M 74 x3.toNatClampNeg ((((zshl 1 (x3 - 1)) ||| 0) ||| 0) ||| (zshl 1 (x3 + x2))))))))
            else
            (if x1 ≤ (x3 + x2) then
              (zck (zin x3 10)
                (some (.inr (16, [some (.ref 66), some (.int x1), some (.int x2), some (.int (x3 + 1)), none], [], zw M 74 x3.toNatClampNeg ((((zshl 1 (x3 - 1)) ||| 0) ||| (zshl 1 (x3 - x2))) ||| 0)))))
              else
              (zck (zin x3 10)
                (some (.inr (16, [some (.ref 66), some (.int x1), some (.int x2), some (.int (x3 + 1)), none], [], zw M 74 x3.toNatClampNeg ((((zshl 1 (x3 - 1)) ||| 0) ||| (zshl 1 (x3 - x2))) ||| (zshl 1 (x3 + x2)))))))))
          else
          (if x3 < x2 then
            (if x1 ≤ (x3 + x2) then
              (zck (zin x3 10)
                (some (.inr (16, [some (.ref 66), some (.int x1), some (.int x2), some (.int (x3 + 1)), none], [], zw M 74 x3.toNatClampNeg ((((zshl 1 (x3 - 1)) ||| (zshl 1 (x3 + 1))) ||| 0) ||| 0)))))
              else
              (zck (zin x3 10)
                (some (.inr (16, [some (.ref 66), some (.int x1), some (.int x2), some (.int (x3 + 1)), none], [], zw M 74 x3.toNatClampNeg ((((zshl 1 (x3 - 1)) ||| (zshl 1 (x3 + 1))) ||| 0) ||| (zshl 1 (x3 + x2))))))))
            else
            (if x1 ≤ (x3 + x2) then
              (zck (zin x3 10)
                (some (.inr (16, [some (.ref 66), some (.int x1), some (.int x2), some (.int (x3 + 1)), none], [], zw M 74 x3.toNatClampNeg ((((zshl 1 (x3 - 1)) ||| (zshl 1 (x3 + 1))) ||| (zshl 1 (x3 - x2))) ||| 0)))))
              else
              (zck (zin x3 10)
                (some (.inr (16, [some (.ref 66), some (.int x1), some (.int x2), some (.int (x3 + 1)), none], [], zw M 74 x3.toNatClampNeg ((((zshl 1 (x3 - 1)) ||| (zshl 1 (x3 + 1))) ||| (zshl 1 (x3 - x2))) ||| (zshl 1 (x3 + x2))))))))))))) := rfl
set_option maxRecDepth 100000 in
set_option maxHeartbeats 4000000 in
theorem e_X8_sheet_0 (E : ZE) (M : ZM) : zrun E tb_X8_sheet cu_X8_sheet 2000 [] 0 [some (.ref 66), none, none] [] M =
  (E.1 163 [.ref 66] M).bind fun q1 =>
  if q1.1 = 0 then
    (some (.inl (some (.int ((-1000100) - (q1.2.1 66 8))), zw q1.2 66 6 0)))
    else
    (some (.inr (37, [some (.ref 66), none, some (.int 0)], [], zw (zw q1.2 66 9 (M.1 66 9)) 66 6 0))) := rfl
set_option maxRecDepth 100000 in
set_option maxHeartbeats 4000000 in
theorem e_X8_sheet_37 (E : ZE) (M : ZM) (x2 : Int32) : zrun E tb_X8_sheet cu_X8_sheet 2000 [] 37 [some (.ref 66), none, some (.int x2)] [] M =
  if 41 ≤ x2 then
  ((E.2.2 164 [.ref 66] M).bind fun q1 =>
    some (.inl (some (.int (q1.1 72 0)), zw q1 66 14 0)))
  else
  (zck (zin x2 41)
    (zck (zin x2 41)
      (some (.inr (37, [some (.ref 66), none, some (.int (x2 + 1))], [], zw M 72 x2.toNatClampNeg (M.1 73 x2.toNatClampNeg)))))) := rfl
set_option maxRecDepth 100000 in
set_option maxHeartbeats 4000000 in
theorem e_X8_fault_0 (E : ZE) (M : ZM) : zrun E tb_X8_fault cu_X8_fault 2000 [] 0 [some (.ref 66)] [] M =
  some (.inl (some (.int (M.1 66 9)), M)) := rfl
set_option maxRecDepth 100000 in
set_option maxHeartbeats 4000000 in
theorem e_X8_keeps_0 (E : ZE) (M : ZM) : zrun E tb_X8_keeps cu_X8_keeps 2000 [] 0 [some (.ref 66), none] [] M =
  if (M.1 66 14) = 24 then
  (some (.inr (11, [some (.ref 66), some (.int 0)], [], M)))
  else
  (some (.inr (51, [some (.ref 66), some (.int 0)], [], M))) := rfl
set_option maxRecDepth 100000 in
set_option maxHeartbeats 4000000 in
theorem e_X8_keeps_11 (E : ZE) (M : ZM) (x1 : Int32) : zrun E tb_X8_keeps cu_X8_keeps 2000 [] 11 [some (.ref 66), some (.int x1)] [] M =
  if 414 ≤ x1 then
  (some (.inr (51, [some (.ref 66), some (.int 0)], [], zw M 66 14 ((M.1 66 14) - 1))))
  else
  (zck (zin (x1 + 18) 432)
    (zck (zin x1 432)
      (some (.inr (11, [some (.ref 66), some (.int (x1 + 1))], [], zw M 75 x1.toNatClampNeg (M.1 75 (x1 + 18).toNatClampNeg)))))) := rfl
set_option maxRecDepth 100000 in
set_option maxHeartbeats 4000000 in
theorem e_X8_keeps_51 (E : ZE) (M : ZM) (x1 : Int32) : zrun E tb_X8_keeps cu_X8_keeps 2000 [] 51 [some (.ref 66), some (.int x1)] [] M =
  if 18 ≤ x1 then
  (some (.inl (none, zw M 66 14 ((M.1 66 14) + 1))))
  else
  (zck (zin (23 + x1) 41)
    (zck (zin ((18 * (M.1 66 14)) + x1) 432)
      (some (.inr (51, [some (.ref 66), some (.int (x1 + 1))], [], zw M 75 ((18 * (M.1 66 14)) + x1).toNatClampNeg (M.1 72 (23 + x1).toNatClampNeg)))))) := rfl
set_option maxRecDepth 100000 in
set_option maxHeartbeats 4000000 in
theorem e_X8_undo_0 (E : ZE) (M : ZM) : zrun E tb_X8_undo cu_X8_undo 2000 [] 0 [some (.ref 66), none] [] M =
  if (M.1 66 14) = 0 then
  (some (.inl (some (.int (-1000002)), M)))
  else
  (some (.inr (22, [some (.ref 66), some (.int 0)], [], zw M 66 14 ((M.1 66 14) - 1)))) := rfl
set_option maxRecDepth 100000 in
set_option maxHeartbeats 4000000 in
theorem e_X8_undo_22 (E : ZE) (M : ZM) (x1 : Int32) : zrun E tb_X8_undo cu_X8_undo 2000 [] 22 [some (.ref 66), some (.int x1)] [] M =
  if 18 ≤ x1 then
  (some (.inl (some (.int (M.1 66 14)), M)))
  else
  (zck (zin ((18 * (M.1 66 14)) + x1) 432)
    (zck (zin (23 + x1) 41)
      (some (.inr (22, [some (.ref 66), some (.int (x1 + 1))], [], zw M 72 (23 + x1).toNatClampNeg (M.1 75 ((18 * (M.1 66 14)) + x1).toNatClampNeg)))))) := rfl
set_option maxRecDepth 100000 in
set_option maxHeartbeats 4000000 in
theorem e_X8_isCell_0 (E : ZE) (M : ZM) (x1 : Int32) : zrun E tb_X8_isCell cu_X8_isCell 2000 [] 0 [some (.ref 66), some (.int x1)] [] M =
  (E.1 143 [.int x1, .int 0, .int ((M.1 72 0) - 1)] M).bind fun q1 =>
  zck (zb01 q1.1)
    (some (.inl (some (.int q1.1), q1.2))) := rfl
set_option maxRecDepth 100000 in
set_option maxHeartbeats 4000000 in
theorem e_X8_isCustomer_0 (E : ZE) (M : ZM) (x1 : Int32) : zrun E tb_X8_isCustomer cu_X8_isCustomer 2000 [] 0 [some (.ref 66), some (.int x1)] [] M =
  (E.1 143 [.int x1, .int 0, .int ((M.1 72 2) - 1)] M).bind fun q1 =>
  zck (zb01 q1.1)
    (some (.inl (some (.int q1.1), q1.2))) := rfl
set_option maxRecDepth 100000 in
set_option maxHeartbeats 4000000 in
theorem e_X8_gone_0 (E : ZE) (M : ZM) : zrun E tb_X8_gone cu_X8_gone 2000 [] 0 [some (.ref 66), none, none] [] M =
  some (.inr (10, [some (.ref 66), some (.int (M.1 72 25)), some (.int 0)], [], M)) := rfl
set_option maxRecDepth 100000 in
set_option maxHeartbeats 4000000 in
theorem e_X8_gone_10 (E : ZE) (M : ZM) (x1 : Int32) (x2 : Int32) : zrun E tb_X8_gone cu_X8_gone 2000 [] 10 [some (.ref 66), some (.int x1), some (.int x2)] [] M =
  if 5 ≤ x2 then
  (some (.inl (some (.int x1), M)))
  else
  (zck (zin (26 + x2) 41)
    (some (.inr (10, [some (.ref 66), some (.int (x1 ||| (M.1 72 (26 + x2).toNatClampNeg))), some (.int (x2 + 1))], [], M)))) := rfl
set_option maxRecDepth 100000 in
set_option maxHeartbeats 4000000 in
theorem e_X8_on_0 (E : ZE) (M : ZM) : zrun E tb_X8_on cu_X8_on 2000 [] 0 [some (.ref 66)] [] M =
  (E.1 171 [.ref 66] M).bind fun q1 =>
  some (.inl (some (.int (((zshl 1 (M.1 72 0)) - 1) &&& (q1.1 ^^^ (-1)))), q1.2)) := rfl
set_option maxRecDepth 100000 in
set_option maxHeartbeats 4000000 in
theorem e_X8_servedNow_0 (E : ZE) (M : ZM) : zrun E tb_X8_servedNow cu_X8_servedNow 2000 [] 0 [some (.ref 66), none, none] [] M =
  some (.inr (4, [some (.ref 66), some (.int 0), some (.int 0)], [], M)) := rfl
set_option maxRecDepth 100000 in
set_option maxHeartbeats 4000000 in
theorem e_X8_servedNow_4 (E : ZE) (M : ZM) (x1 : Int32) (x2 : Int32) : zrun E tb_X8_servedNow cu_X8_servedNow 2000 [] 4 [some (.ref 66), some (.int x1), some (.int x2)] [] M =
  if 5 ≤ x2 then
  (some (.inl (some (.int x1), M)))
  else
  (zck (zin (26 + x2) 41)
    (if (M.1 72 (26 + x2).toNatClampNeg) ≤ 0 then
      (some (.inr (4, [some (.ref 66), some (.int (x1 ||| 0)), some (.int (x2 + 1))], [], M)))
      else
      (some (.inr (4, [some (.ref 66), some (.int (x1 ||| (zshl 1 x2))), some (.int (x2 + 1))], [], M))))) := rfl
set_option maxRecDepth 100000 in
set_option maxHeartbeats 4000000 in
theorem e_X8_reach_0 (E : ZE) (M : ZM) (x1 : Int32) (x2 : Int32) : zrun E tb_X8_reach cu_X8_reach 2000 [] 0 [some (.ref 66), some (.int x1), some (.int x2), none, none, none] [] M =
  some (.inr (7, [some (.ref 66), some (.int x1), none, some (.int (zshl 1 x2)), some (.int 0), none], [], M)) := rfl
set_option maxRecDepth 100000 in
set_option maxHeartbeats 4000000 in
theorem e_X8_reach_7 (E : ZE) (M : ZM) (x1 : Int32) (x3 : Int32) (x4 : Int32) : zrun E tb_X8_reach cu_X8_reach 2000 [] 7 [some (.ref 66), some (.int x1), none, some (.int x3), some (.int x4), none] [] M =
  if x3 = x4 then
  (some (.inl (some (.int x3), M)))
  else
  (some (.inr (19, [some (.ref 66), some (.int x1), none, some (.int x3), some (.int x3), some (.int 0)], [], M))) := rfl
set_option maxRecDepth 100000 in
set_option maxHeartbeats 4000000 in
theorem e_X8_reach_19 (E : ZE) (M : ZM) (x1 : Int32) (x3 : Int32) (x4 : Int32) (x5 : Int32) : zrun E tb_X8_reach cu_X8_reach 2000 [] 19 [some (.ref 66), some (.int x1), none, some (.int x3), some (.int x4), some (.int x5)] [] M =
  if (M.1 72 0) ≤ x5 then
  (some (.inr (7, [some (.ref 66), some (.int x1), none, some (.int x3), some (.int x4), none], [], M)))
  else
  ((E.1 144 [.int x4, .int x5] M).bind fun q1 =>
    if q1.1 = 0 then
      (some (.inr (19, [some (.ref 66), some (.int x1), none, some (.int (x3 ||| 0)), some (.int x4), some (.int (x5 + 1))], [], q1.2)))
      else
      (zck (zin x5 10)
        (some (.inr (19, [some (.ref 66), some (.int x1), none, some (.int (x3 ||| ((q1.2.1 74 x5.toNatClampNeg) &&& x1))), some (.int x4), some (.int (x5 + 1))], [], q1.2))))) := rfl
set_option maxRecDepth 100000 in
set_option maxHeartbeats 4000000 in
theorem e_X8_lowest_0 (E : ZE) (M : ZM) (x0 : Int32) : zrun E tb_X8_lowest cu_X8_lowest 2000 [] 0 [some (.int x0), none] [] M =
  some (.inr (2, [some (.int x0), some (.int 0)], [], M)) := rfl
set_option maxRecDepth 100000 in
set_option maxHeartbeats 4000000 in
theorem e_X8_lowest_2 (E : ZE) (M : ZM) (x0 : Int32) (x1 : Int32) : zrun E tb_X8_lowest cu_X8_lowest 2000 [] 2 [some (.int x0), some (.int x1)] [] M =
  (E.1 144 [.int x0, .int x1] M).bind fun q1 =>
  if q1.1 = 0 then
    (some (.inr (2, [some (.int x0), some (.int (x1 + 1))], [], q1.2)))
    else
    (some (.inl (some (.int x1), q1.2))) := rfl
set_option maxRecDepth 100000 in
set_option maxHeartbeats 4000000 in
theorem e_X8_hangs_0 (E : ZE) (M : ZM) (x1 : Int32) : zrun E tb_X8_hangs cu_X8_hangs 2000 [] 0 [some (.ref 66), some (.int x1)] [] M =
  if x1 ≤ 0 then
  (some (.inl (some (.int 0), M)))
  else
  ((E.1 175 [.int x1] M).bind fun q1 =>
    (E.1 174 [.ref 66, .int x1, .int q1.1] q1.2).bind fun q2 =>
      if q2.1 = x1 then
        (some (.inl (some (.int 1), q2.2)))
        else
        (some (.inl (some (.int 0), q2.2)))) := rfl
set_option maxRecDepth 100000 in
set_option maxHeartbeats 4000000 in
theorem e_X8_isPiece_0 (E : ZE) (M : ZM) (x1 : Int32) : zrun E tb_X8_isPiece cu_X8_isPiece 2000 [] 0 [some (.ref 66), some (.int x1)] [] M =
  if x1 ≤ 0 then
  (some (.inl (some (.int 0), M)))
  else
  ((E.1 172 [.ref 66] M).bind fun q1 =>
    if (x1 &&& (q1.1 ^^^ (-1))) = 0 then
      ((E.1 176 [.ref 66, .int x1] q1.2).bind fun q2 =>
        if q2.1 = 0 then
          (some (.inl (some (.int 0), q2.2)))
          else
          (some (.inl (some (.int 1), q2.2))))
      else
      (some (.inl (some (.int 0), q1.2)))) := rfl
set_option maxRecDepth 100000 in
set_option maxHeartbeats 4000000 in
theorem e_X8_pays_0 (E : ZE) (M : ZM) (x1 : Int32) : zrun E tb_X8_pays cu_X8_pays 2000 [] 0 [some (.ref 66), some (.int x1), none, none, none, none, none, none] [] M =
  some (.inr (7, [some (.ref 66), some (.int x1), some (.int 0), some (.int 0), some (.int 0), none, none, none], [], M)) := rfl
set_option maxRecDepth 100000 in
set_option maxHeartbeats 4000000 in
theorem e_X8_pays_7 (E : ZE) (M : ZM) (x1 : Int32) (x2 : Int32) (x3 : Int32) (x4 : Int32) : zrun E tb_X8_pays cu_X8_pays 2000 [] 7 [some (.ref 66), some (.int x1), some (.int x2), some (.int x3), some (.int x4), none, none, none] [] M =
  if (M.1 72 0) ≤ x4 then
  (some (.inr (51, [some (.ref 66), some (.int x1), some (.int x2), some (.int x3), some (.int 0), none, none, none], [], M)))
  else
  (zck (zin (3 + x4) 41)
    (if (M.1 72 (3 + x4).toNatClampNeg) < 4 then
      (some (.inr (7, [some (.ref 66), some (.int x1), some (.int (x2 ||| 0)), some (.int x3), some (.int (x4 + 1)), none, none, none], [], M)))
      else
      (some (.inr (7, [some (.ref 66), some (.int x1), some (.int (x2 ||| (zshl 1 x4))), some (.int x3), some (.int (x4 + 1)), none, none, none], [], M))))) := rfl
set_option maxRecDepth 100000 in
set_option maxHeartbeats 4000000 in
theorem e_X8_pays_51 (E : ZE) (M : ZM) (x1 : Int32) (x2 : Int32) (x3 : Int32) (x4 : Int32) : zrun E tb_X8_pays cu_X8_pays 2000 [] 51 [some (.ref 66), some (.int x1), some (.int x2), some (.int x3), some (.int x4), none, none, none] [] M =
  if (M.1 72 0) ≤ x4 then
  (some (.inl (some (.int x3), M)))
  else
  (zck (zin (31 + x4) 41)
    (zck (zin (3 + x4) 41)
      (if (M.1 72 (3 + x4).toNatClampNeg) = 2 then
        ((E.1 144 [.int x1, .int x4] M).bind fun q6 =>
          if q6.1 = 0 then
            (some (.inr (51, [some (.ref 66), some (.int x1), some (.int x2), some (.int (x3 + 0)), some (.int (x4 + 1)), none, none, none], [], q6.2)))
            else
            (some (.inr (51, [some (.ref 66), some (.int x1), some (.int x2), some (.int (x3 + ((M.1 72 (31 + x4).toNatClampNeg) + (M.1 72 23)))), some (.int (x4 + 1)), none, none, none], [], q6.2))))
        else
        (if (M.1 72 (3 + x4).toNatClampNeg) = 3 then
          ((E.1 144 [.int x1, .int x4] M).bind fun q5 =>
              if q5.1 = 0 then
                (some (.inr (51, [some (.ref 66), some (.int x1), some (.int x2), some (.int (x3 + 0)), some (.int (x4 + 1)), none, none, none], [], q5.2)))
                else
                (some (.inr (51, [some (.ref 66), some (.int x1), some (.int x2), some (.int (x3 + ((M.1 72 (31 + x4).toNatClampNeg) / 2))), some (.int (x4 + 1)), none, none, none], [], q5.2))))
          else
          (if 4 ≤ (M.1 72 (3 + x4).toNatClampNeg) then
            (zck (zin x4 10)
              ((E.1 145 [.int (((M.1 74 x4.toNatClampNeg) &&& x1) &&& x2)] M).bind fun q1 =>
                if (M.1 72 (3 + x4).toNatClampNeg) = 5 then
                  ((E.1 144 [.int x1, .int x4] q1.2).bind fun q3 =>
                    if q3.1 = 0 then
                      (some (.inr (51, [some (.ref 66), some (.int x1), some (.int x2), some (.int (x3 + 0)), some (.int (x4 + 1)), none, none, none], [], q3.2)))
                      else
                      (some (.inr (51, [some (.ref 66), some (.int x1), some (.int x2), some (.int (x3 + (((M.1 72 (31 + x4).toNatClampNeg) * q1.1) + 5))), some (.int (x4 + 1)), none, none, none], [], q3.2))))
                  else
                  ((E.1 144 [.int x1, .int x4] q1.2).bind fun q2 =>
                    if q2.1 = 0 then
                      (some (.inr (51, [some (.ref 66), some (.int x1), some (.int x2), some (.int (x3 + 0)), some (.int (x4 + 1)), none, none, none], [], q2.2)))
                      else
                      (some (.inr (51, [some (.ref 66), some (.int x1), some (.int x2), some (.int (x3 + (((M.1 72 (31 + x4).toNatClampNeg) * q1.1) + 0))), some (.int (x4 + 1)), none, none, none], [], q2.2))))))
            else
            ((E.1 144 [.int x1, .int x4] M).bind fun q4 =>
              if q4.1 = 0 then
                (some (.inr (51, [some (.ref 66), some (.int x1), some (.int x2), some (.int (x3 + 0)), some (.int (x4 + 1)), none, none, none], [], q4.2)))
                else
                (some (.inr (51, [some (.ref 66), some (.int x1), some (.int x2), some (.int (x3 + (M.1 72 (31 + x4).toNatClampNeg))), some (.int (x4 + 1)), none, none, none], [], q4.2))))))))) := rfl
set_option maxRecDepth 100000 in
set_option maxHeartbeats 4000000 in
theorem e_X8_tears_0 (E : ZE) (M : ZM) (x1 : Int32) : zrun E tb_X8_tears cu_X8_tears 2000 [] 0 [some (.ref 66), some (.int x1), none, none] [] M =
  some (.inr (4, [some (.ref 66), some (.int x1), some (.int 0), some (.int 0)], [], M)) := rfl
set_option maxRecDepth 100000 in
set_option maxHeartbeats 4000000 in
theorem e_X8_tears_4 (E : ZE) (M : ZM) (x1 : Int32) (x2 : Int32) (x3 : Int32) : zrun E tb_X8_tears cu_X8_tears 2000 [] 4 [some (.ref 66), some (.int x1), some (.int x2), some (.int x3)] [] M =
  if (M.1 72 0) ≤ x3 then
  (some (.inl (some (.int x2), M)))
  else
  ((E.1 144 [.int x1, .int x3] M).bind fun q1 =>
    if q1.1 = 0 then
      (some (.inr (4, [some (.ref 66), some (.int x1), some (.int (x2 + 0)), some (.int (x3 + 1))], [], q1.2)))
      else
      (zck (zin x3 10)
        ((E.1 172 [.ref 66] q1.2).bind fun q2 =>
          (E.1 145 [.int (((q1.2.1 74 x3.toNatClampNeg) &&& q2.1) &&& (x1 ^^^ (-1)))] q2.2).bind fun q3 =>
            some (.inr (4, [some (.ref 66), some (.int x1), some (.int (x2 + q3.1)), some (.int (x3 + 1))], [], q3.2))))) := rfl
set_option maxRecDepth 100000 in
set_option maxHeartbeats 4000000 in
theorem e_X8_serves_0 (E : ZE) (M : ZM) (x1 : Int32) (x2 : Int32) : zrun E tb_X8_serves cu_X8_serves 2000 [] 0 [some (.ref 66), some (.int x1), some (.int x2)] [] M =
  (E.1 179 [.ref 66, .int x2] M).bind fun q1 =>
  zck (zin (26 + x1) 41)
    (some (.inl (none, zw (zw q1.2 72 24 ((M.1 72 24) + q1.1)) 72 (26 + x1).toNatClampNeg x2))) := rfl
set_option maxRecDepth 100000 in
set_option maxHeartbeats 4000000 in
theorem e_X8_serve_0 (E : ZE) (M : ZM) (x1 : Int32) (x2 : Int32) : zrun E tb_X8_serve cu_X8_serve 2000 [] 0 [some (.ref 66), some (.int x1), some (.int x2), none] [] M =
  (E.1 170 [.ref 66, .int x1] M).bind fun q1 =>
  if q1.1 = 0 then
    (some (.inl (some (.int (-1000001)), q1.2)))
    else
    ((E.1 177 [.ref 66, .int x2] q1.2).bind fun q2 =>
      if q2.1 = 0 then
        (some (.inl (some (.int (-1000001)), q2.2)))
        else
        (zck (zin (26 + x1) 41)
          (if 0 < (q2.2.1 72 (26 + x1).toNatClampNeg) then
            (some (.inl (some (.int (-1000002)), q2.2)))
            else
            ((E.1 178 [.ref 66, .int x2] q2.2).bind fun q3 =>
              zck (zin (13 + x1) 41)
                (zck (zin (18 + x1) 41)
                  ((E.1 143 [.int q3.1, .int (q3.2.1 72 (13 + x1).toNatClampNeg), .int (q3.2.1 72 (18 + x1).toNatClampNeg)] q3.2).bind fun q4 =>
                    if q4.1 = 0 then
                      (some (.inl (some (.int (-1000002)), q4.2)))
                      else
                      ((E.2.2 167 [.ref 66] q4.2).bind fun q5 =>
                        (E.1 179 [.ref 66, .int x2] q5).bind fun q6 =>
                          (E.2.2 180 [.ref 66, .int x1, .int x2] q6.2).bind fun q7 =>
                            some (.inl (some (.int q6.1), q7))))))))) := rfl

set_option maxRecDepth 100000 in
set_option maxHeartbeats 4000000 in
theorem e_X8_bringBack_0 (E : ZE) (M : ZM) (x1 : Int32) : zrun E tb_X8_bringBack cu_X8_bringBack 2000 [] 0 [some (.ref 66), some (.int x1), none] [] M =
  (E.1 170 [.ref 66, .int x1] M).bind fun q1 =>
  if q1.1 = 0 then
    (some (.inl (some (.int (-1000001)), q1.2)))
    else
    (zck (zin (26 + x1) 41)
      (if (q1.2.1 72 (26 + x1).toNatClampNeg) = 0 then
        (some (.inl (some (.int (-1000002)), q1.2)))
        else
        ((E.2.2 167 [.ref 66] q1.2).bind fun q2 =>
          zck (zin (26 + x1) 41)
            ((E.1 178 [.ref 66, .int (q2.1 72 (26 + x1).toNatClampNeg)] q2).bind fun q3 =>
              zck (zin (26 + x1) 41)
                (some (.inl (some (.int q3.1), zw q3.2 72 (26 + x1).toNatClampNeg 0))))))) := rfl
set_option maxRecDepth 100000 in
set_option maxHeartbeats 4000000 in
theorem e_X8_spoil_0 (E : ZE) (M : ZM) (x1 : Int32) : zrun E tb_X8_spoil cu_X8_spoil 2000 [] 0 [some (.ref 66), some (.int x1)] [] M =
  (E.1 169 [.ref 66, .int x1] M).bind fun q1 =>
  if q1.1 = 0 then
    (some (.inl (some (.int (-1000001)), q1.2)))
    else
    ((E.1 172 [.ref 66] q1.2).bind fun q2 =>
      (E.1 144 [.int q2.1, .int x1] q2.2).bind fun q3 =>
        if q3.1 = 0 then
          (some (.inl (some (.int (-1000002)), q3.2)))
          else
          ((E.2.2 167 [.ref 66] q3.2).bind fun q4 =>
            (E.1 172 [.ref 66] (zw q4 72 25 ((q4.1 72 25) ||| (zshl 1 x1)))).bind fun q5 =>
              (E.1 145 [.int q5.1] q5.2).bind fun q6 =>
                some (.inl (some (.int q6.1), q6.2)))) := rfl
set_option maxRecDepth 100000 in
set_option maxHeartbeats 4000000 in
theorem e_X8_value_0 (E : ZE) (M : ZM) (x1 : Int32) (x2 : Int32) : zrun E tb_X8_value cu_X8_value 2000 [] 0 [some (.ref 66), some (.int x1), some (.int x2), none] [] M =
  (E.1 169 [.ref 66, .int x1] M).bind fun q1 =>
  if q1.1 = 0 then
    (some (.inl (some (.int (-1000001)), q1.2)))
    else
    ((E.1 143 [.int x2, .int 0, .int 9] q1.2).bind fun q2 =>
      if q2.1 = 0 then
        (some (.inl (some (.int (-1000001)), q2.2)))
        else
        ((E.2.2 167 [.ref 66] q2.2).bind fun q3 =>
          zck (zin (31 + x1) 41)
            (zck (zin (31 + x1) 41)
              (some (.inl (some (.int (q3.1 72 (31 + x1).toNatClampNeg)), zw q3 72 (31 + x1).toNatClampNeg x2)))))) := rfl
set_option maxRecDepth 100000 in
set_option maxHeartbeats 4000000 in
theorem e_X8_over_0 (E : ZE) (M : ZM) (x1 : Int32) : zrun E tb_X8_over cu_X8_over 2000 [] 0 [some (.ref 66), some (.int x1), none] [] M =
  if (M.1 72 0) = 0 then
  (some (.inl (some (.int (-1000002)), M)))
  else
  ((E.1 143 [.int x1, .int 0, .int 9] M).bind fun q1 =>
    if q1.1 = 0 then
      (some (.inl (some (.int (-1000001)), q1.2)))
      else
      ((E.2.2 167 [.ref 66] q1.2).bind fun q2 =>
        some (.inl (some (.int (q2.1 72 23)), zw q2 72 23 x1)))) := rfl
set_option maxRecDepth 100000 in
set_option maxHeartbeats 4000000 in
theorem e_X8_ownerOf_0 (E : ZE) (M : ZM) (x1 : Int32) : zrun E tb_X8_ownerOf cu_X8_ownerOf 2000 [] 0 [some (.ref 66), some (.int x1), none, none] [] M =
  some (.inr (5, [some (.ref 66), some (.int x1), some (.int (-1000000)), some (.int 0)], [], M)) := rfl
set_option maxRecDepth 100000 in
set_option maxHeartbeats 4000000 in
theorem e_X8_ownerOf_5 (E : ZE) (M : ZM) (x1 : Int32) (x2 : Int32) (x3 : Int32) : zrun E tb_X8_ownerOf cu_X8_ownerOf 2000 [] 5 [some (.ref 66), some (.int x1), some (.int x2), some (.int x3)] [] M =
  if 5 ≤ x3 then
  (some (.inl (some (.int x2), M)))
  else
  (zck (zin (26 + x3) 41)
    ((E.1 144 [.int (M.1 72 (26 + x3).toNatClampNeg), .int x1] M).bind fun q1 =>
      if q1.1 = 0 then
        (some (.inr (5, [some (.ref 66), some (.int x1), some (.int x2), some (.int (x3 + 1))], [], q1.2)))
        else
        (some (.inr (5, [some (.ref 66), some (.int x1), some (.int x3), some (.int (x3 + 1))], [], q1.2))))) := rfl
set_option maxRecDepth 100000 in
set_option maxHeartbeats 4000000 in
theorem e_X8_cell_0 (E : ZE) (M : ZM) (x1 : Int32) (x2 : Int32) : zrun E tb_X8_cell cu_X8_cell 2000 [] 0 [some (.ref 66), some (.int x1), some (.int x2)] [] M =
  (E.1 169 [.ref 66, .int x1] M).bind fun q1 =>
  if q1.1 = 0 then
    (some (.inl (some (.int (-1000001)), q1.2)))
    else
    (if x2 = 0 then
      (zck (zin (31 + x1) 41)
        (some (.inl (some (.int (q1.2.1 72 (31 + x1).toNatClampNeg)), q1.2))))
      else if x2 = 1 then
      ((E.1 144 [.int (q1.2.1 72 25), .int x1] q1.2).bind fun q2 =>
        if q2.1 = 0 then
          ((E.1 172 [.ref 66] q2.2).bind fun q3 =>
            (E.1 144 [.int q3.1, .int x1] q3.2).bind fun q4 =>
              if q4.1 = 0 then
                (some (.inl (some (.int 1), q4.2)))
                else
                (some (.inl (some (.int 0), q4.2))))
          else
          (some (.inl (some (.int 2), q2.2))))
      else if x2 = 2 then
      (zck (zin x1 10)
        ((E.1 172 [.ref 66] q1.2).bind fun q5 =>
          some (.inl (some (.int ((q1.2.1 74 x1.toNatClampNeg) &&& q5.1)), q5.2))))
      else if x2 = 3 then
      ((E.1 186 [.ref 66, .int x1] q1.2).bind fun q6 =>
        some (.inl (some (.int q6.1), q6.2)))
      else (some (.inl (some (.int (-1000001)), q1.2)))) := rfl
set_option maxRecDepth 100000 in
set_option maxHeartbeats 4000000 in
theorem e_X8_customer_0 (E : ZE) (M : ZM) (x1 : Int32) (x2 : Int32) : zrun E tb_X8_customer cu_X8_customer 2000 [] 0 [some (.ref 66), some (.int x1), some (.int x2)] [] M =
  (E.1 170 [.ref 66, .int x1] M).bind fun q1 =>
  if q1.1 = 0 then
    (some (.inl (some (.int (-1000001)), q1.2)))
    else
    (if x2 = 0 then
      (zck (zin (13 + x1) 41)
        (some (.inl (some (.int (q1.2.1 72 (13 + x1).toNatClampNeg)), q1.2))))
      else if x2 = 1 then
      (zck (zin (18 + x1) 41)
        (some (.inl (some (.int (q1.2.1 72 (18 + x1).toNatClampNeg)), q1.2))))
      else if x2 = 2 then
      (zck (zin (26 + x1) 41)
        (some (.inl (some (.int (q1.2.1 72 (26 + x1).toNatClampNeg)), q1.2))))
      else (some (.inl (some (.int (-1000001)), q1.2)))) := rfl
set_option maxRecDepth 100000 in
set_option maxHeartbeats 4000000 in
theorem e_X8_stand_0 (E : ZE) (M : ZM) (x1 : Int32) : zrun E tb_X8_stand cu_X8_stand 2000 [] 0 [some (.ref 66), some (.int x1)] [] M =
  if (M.1 72 0) = 0 then
  (some (.inl (some (.int (-1000002)), M)))
  else
  (if x1 = 0 then
    ((E.1 172 [.ref 66] M).bind fun q1 =>
      some (.inl (some (.int q1.1), q1.2)))
    else if x1 = 1 then
    ((E.1 173 [.ref 66] M).bind fun q2 =>
      some (.inl (some (.int q2.1), q2.2)))
    else if x1 = 2 then
    (some (.inl (some (.int (M.1 72 24)), M)))
    else if x1 = 3 then
    (some (.inl (some (.int (M.1 72 23)), M)))
    else if x1 = 4 then
    (some (.inl (some (.int (M.1 72 25)), M)))
    else (some (.inl (some (.int (-1000001)), M)))) := rfl
set_option maxRecDepth 100000 in
set_option maxHeartbeats 4000000 in
theorem e_X8_partOf_0 (E : ZE) (M : ZM) (x1 : Int32) (x2 : Int32) : zrun E tb_X8_partOf cu_X8_partOf 2000 [] 0 [some (.ref 66), some (.int x1), some (.int x2), none, none] [] M =
  some (.inr (5, [some (.ref 66), none, some (.int x2), some (.int x1), some (.int 0)], [], M)) := rfl
set_option maxRecDepth 100000 in
set_option maxHeartbeats 4000000 in
theorem e_X8_partOf_5 (E : ZE) (M : ZM) (x2 : Int32) (x3 : Int32) (x4 : Int32) : zrun E tb_X8_partOf cu_X8_partOf 2000 [] 5 [some (.ref 66), none, some (.int x2), some (.int x3), some (.int x4)] [] M =
  if x2 ≤ x4 then
  (if x3 ≤ 0 then
    (some (.inl (some (.int 0), M)))
    else
    ((E.1 175 [.int x3] M).bind fun q1 =>
      (E.1 174 [.ref 66, .int x3, .int q1.1] q1.2).bind fun q2 =>
        some (.inl (some (.int q2.1), q2.2))))
  else
  (if x3 ≤ 0 then
    (if x3 ≤ 0 then
      (some (.inl (some (.int 0), M)))
      else
      ((E.1 175 [.int x3] M).bind fun q3 =>
        (E.1 174 [.ref 66, .int x3, .int q3.1] q3.2).bind fun q4 =>
          some (.inl (some (.int q4.1), q4.2))))
    else
    ((E.1 175 [.int x3] M).bind fun q5 =>
      (E.1 174 [.ref 66, .int x3, .int q5.1] q5.2).bind fun q6 =>
        some (.inr (5, [some (.ref 66), none, some (.int x2), some (.int (x3 &&& (q6.1 ^^^ (-1)))), some (.int (x4 + 1))], [], q6.2)))) := rfl
set_option maxRecDepth 100000 in
set_option maxHeartbeats 4000000 in
theorem e_X8_manyParts_0 (E : ZE) (M : ZM) (x1 : Int32) : zrun E tb_X8_manyParts cu_X8_manyParts 2000 [] 0 [some (.ref 66), some (.int x1), none] [] M =
  some (.inr (2, [some (.ref 66), some (.int x1), some (.int 0)], [], M)) := rfl
set_option maxRecDepth 100000 in
set_option maxHeartbeats 4000000 in
theorem e_X8_manyParts_2 (E : ZE) (M : ZM) (x1 : Int32) (x2 : Int32) : zrun E tb_X8_manyParts cu_X8_manyParts 2000 [] 2 [some (.ref 66), some (.int x1), some (.int x2)] [] M =
  (E.1 190 [.ref 66, .int x1, .int x2] M).bind fun q1 =>
  if q1.1 ≤ 0 then
    (some (.inl (some (.int x2), q1.2)))
    else
    (some (.inr (2, [some (.ref 66), some (.int x1), some (.int (x2 + 1))], [], q1.2))) := rfl
set_option maxRecDepth 100000 in
set_option maxHeartbeats 4000000 in
theorem e_X8_piece_0 (E : ZE) (M : ZM) (x1 : Int32) (x2 : Int32) : zrun E tb_X8_piece cu_X8_piece 2000 [] 0 [some (.ref 66), some (.int x1), some (.int x2)] [] M =
  (E.1 177 [.ref 66, .int x1] M).bind fun q1 =>
  if q1.1 = 0 then
    (some (.inl (some (.int (-1000001)), q1.2)))
    else
    (if x2 = 0 then
      ((E.1 178 [.ref 66, .int x1] q1.2).bind fun q2 =>
        some (.inl (some (.int q2.1), q2.2)))
      else if x2 = 1 then
      ((E.1 179 [.ref 66, .int x1] q1.2).bind fun q3 =>
        some (.inl (some (.int q3.1), q3.2)))
      else if x2 = 2 then
      ((E.1 145 [.int x1] q1.2).bind fun q4 =>
        some (.inl (some (.int q4.1), q4.2)))
      else if x2 = 3 then
      ((E.1 172 [.ref 66] q1.2).bind fun q5 =>
        (E.1 191 [.ref 66, .int (q5.1 &&& (x1 ^^^ (-1)))] q5.2).bind fun q6 =>
          some (.inl (some (.int q6.1), q6.2)))
      else (some (.inl (some (.int (-1000001)), q1.2)))) := rfl
set_option maxRecDepth 100000 in
set_option maxHeartbeats 4000000 in
theorem e_X8_parts_0 (E : ZE) (M : ZM) (x1 : Int32) : zrun E tb_X8_parts cu_X8_parts 2000 [] 0 [some (.ref 66), some (.int x1), none] [] M =
  if (M.1 72 0) = 0 then
  (some (.inl (some (.int (-1000002)), M)))
  else
  (if (-1) ≤ x1 then
    (if x1 = (-1) then
      (if x1 = (-1) then
        ((E.1 172 [.ref 66] M).bind fun q8 =>
          (E.1 191 [.ref 66, .int q8.1] q8.2).bind fun q9 =>
            some (.inl (some (.int q9.1), q9.2)))
        else
        (if (0 : Int32) ≤ 0 then
          (some (.inl (some (.int (-1000000)), M)))
          else
          (some (.inl (some (.int 0), M)))))
      else
      ((E.1 172 [.ref 66] M).bind fun q1 =>
        if 10 ≤ x1 then
          ((E.1 190 [.ref 66, .int q1.1, .int 10] q1.2).bind fun q2 =>
            if x1 = (-1) then
              ((E.1 172 [.ref 66] q2.2).bind fun q3 =>
                (E.1 191 [.ref 66, .int q3.1] q3.2).bind fun q4 =>
                  some (.inl (some (.int q4.1), q4.2)))
              else
              (if q2.1 ≤ 0 then
                (some (.inl (some (.int (-1000000)), q2.2)))
                else
                (some (.inl (some (.int q2.1), q2.2)))))
          else
          ((E.1 190 [.ref 66, .int q1.1, .int x1] q1.2).bind fun q5 =>
            if x1 = (-1) then
              ((E.1 172 [.ref 66] q5.2).bind fun q6 =>
                (E.1 191 [.ref 66, .int q6.1] q6.2).bind fun q7 =>
                  some (.inl (some (.int q7.1), q7.2)))
              else
              (if q5.1 ≤ 0 then
                (some (.inl (some (.int (-1000000)), q5.2)))
                else
                (some (.inl (some (.int q5.1), q5.2)))))))
    else
    (some (.inl (some (.int (-1000001)), M)))) := rfl
set_option maxRecDepth 100000 in
set_option maxHeartbeats 4000000 in
theorem e_X8_surveys_0 (E : ZE) (M : ZM) : zrun E tb_X8_surveys cu_X8_surveys 2000 [] 0 [some (.ref 66), none] [] M =
  some (.inr (2, [some (.ref 66), some (.int 0)], [], M)) := rfl
set_option maxRecDepth 100000 in
set_option maxHeartbeats 4000000 in
theorem e_X8_surveys_2 (E : ZE) (M : ZM) (x1 : Int32) : zrun E tb_X8_surveys cu_X8_surveys 2000 [] 2 [some (.ref 66), some (.int x1)] [] M =
  if (zshl 1 (M.1 72 0)) ≤ x1 then
  (some (.inl (none, M)))
  else
  ((E.1 176 [.ref 66, .int x1] M).bind fun q1 =>
    if q1.1 = 0 then
      (zck (zin x1 1024)
        (some (.inr (2, [some (.ref 66), some (.int (x1 + 1))], [], zwl q1.2 78 x1.toNatClampNeg 0))))
      else
      ((E.1 178 [.ref 66, .int x1] q1.2).bind fun q2 =>
        zck (zin x1 1024)
          (some (.inr (2, [some (.ref 66), some (.int (x1 + 1))], [], zwl q2.2 78 x1.toNatClampNeg (zlshl (Int32.toInt64 (q2.1 + 1)) 32)))))) := rfl
set_option maxRecDepth 100000 in
set_option maxHeartbeats 4000000 in
theorem e_X8_paysBy_0 (E : ZE) (M : ZM) (x1 : Int32) : zrun E tb_X8_paysBy cu_X8_paysBy 2000 [] 0 [some (.ref 66), some (.int x1)] [] M =
  (E.1 171 [.ref 66] M).bind fun q1 =>
  if (x1 &&& q1.1) = 0 then
    (zck (zin x1 1024)
      (some (.inl (some (.int ((Int64.toInt32 (zlshr (q1.2.2 78 x1.toNatClampNeg) 32)) - 1)), q1.2))))
    else
    (some (.inl (some (.int (-1)), q1.2))) := rfl
set_option maxRecDepth 100000 in
set_option maxHeartbeats 4000000 in
theorem e_X8_isStraight_0 (E : ZE) (M : ZM) (x1 : Int32) : zrun E tb_X8_isStraight cu_X8_isStraight 2000 [] 0 [some (.ref 66), some (.int x1), none, none, none, none] [] M =
  (E.1 175 [.int x1] M).bind fun q1 =>
  some (.inr (14, [some (.ref 66), some (.int x1), some (.int 1), some (.int 1), some (.int q1.1), some (.int q1.1)], [], q1.2)) := rfl
set_option maxRecDepth 100000 in
set_option maxHeartbeats 4000000 in
theorem e_X8_isStraight_14 (E : ZE) (M : ZM) (x1 : Int32) (x2 : Int32) (x3 : Int32) (x4 : Int32) (x5 : Int32) : zrun E tb_X8_isStraight cu_X8_isStraight 2000 [] 14 [some (.ref 66), some (.int x1), some (.int x2), some (.int x3), some (.int x4), some (.int x5)] [] M =
  if (M.1 72 0) ≤ x5 then
  (if x2 = 0 then
    (if x3 = 0 then
      (some (.inl (some (.int 0), M)))
      else
      (some (.inl (some (.int 1), M))))
    else
    (some (.inl (some (.int 1), M))))
  else
  (if x2 = 0 then
    (if x3 = 0 then
      (some (.inr (14, [some (.ref 66), some (.int x1), some (.int 0), some (.int 0), some (.int x4), some (.int (x5 + 1))], [], M)))
      else
      ((E.1 144 [.int x1, .int x5] M).bind fun q1 =>
        if q1.1 = 0 then
          (some (.inr (14, [some (.ref 66), some (.int x1), some (.int 0), some (.int 1), some (.int x4), some (.int (x5 + 1))], [], q1.2)))
          else
          (zck (!(decide (q1.2.1 72 1 = 0)))
            (zck (!(decide (q1.2.1 72 1 = 0)))
              (if (zrem x5 (q1.2.1 72 1)) = (zrem x4 (q1.2.1 72 1)) then
                (some (.inr (14, [some (.ref 66), some (.int x1), some (.int 0), some (.int 1), some (.int x4), some (.int (x5 + 1))], [], q1.2)))
                else
                (some (.inr (14, [some (.ref 66), some (.int x1), some (.int 0), some (.int 0), some (.int x4), some (.int (x5 + 1))], [], q1.2))))))))
    else
    ((E.1 144 [.int x1, .int x5] M).bind fun q2 =>
      if q2.1 = 0 then
        (if x3 = 0 then
          (some (.inr (14, [some (.ref 66), some (.int x1), some (.int 1), some (.int 0), some (.int x4), some (.int (x5 + 1))], [], q2.2)))
          else
          ((E.1 144 [.int x1, .int x5] q2.2).bind fun q3 =>
            if q3.1 = 0 then
              (some (.inr (14, [some (.ref 66), some (.int x1), some (.int 1), some (.int 1), some (.int x4), some (.int (x5 + 1))], [], q3.2)))
              else
              (zck (!(decide (q3.2.1 72 1 = 0)))
                (zck (!(decide (q3.2.1 72 1 = 0)))
                  (if (zrem x5 (q3.2.1 72 1)) = (zrem x4 (q3.2.1 72 1)) then
                    (some (.inr (14, [some (.ref 66), some (.int x1), some (.int 1), some (.int 1), some (.int x4), some (.int (x5 + 1))], [], q3.2)))
                    else
                    (some (.inr (14, [some (.ref 66), some (.int x1), some (.int 1), some (.int 0), some (.int x4), some (.int (x5 + 1))], [], q3.2))))))))
        else
        (zck (!(decide (q2.2.1 72 1 = 0)))
          (zck (!(decide (q2.2.1 72 1 = 0)))
            (if (x5 / (q2.2.1 72 1)) = (x4 / (q2.2.1 72 1)) then
              (if x3 = 0 then
                (some (.inr (14, [some (.ref 66), some (.int x1), some (.int 1), some (.int 0), some (.int x4), some (.int (x5 + 1))], [], q2.2)))
                else
                ((E.1 144 [.int x1, .int x5] q2.2).bind fun q5 =>
                  if q5.1 = 0 then
                    (some (.inr (14, [some (.ref 66), some (.int x1), some (.int 1), some (.int 1), some (.int x4), some (.int (x5 + 1))], [], q5.2)))
                    else
                    (zck (!(decide (q5.2.1 72 1 = 0)))
                      (zck (!(decide (q5.2.1 72 1 = 0)))
                        (if (zrem x5 (q5.2.1 72 1)) = (zrem x4 (q5.2.1 72 1)) then
                          (some (.inr (14, [some (.ref 66), some (.int x1), some (.int 1), some (.int 1), some (.int x4), some (.int (x5 + 1))], [], q5.2)))
                          else
                          (some (.inr (14, [some (.ref 66), some (.int x1), some (.int 1), some (.int 0), some (.int x4), some (.int (x5 + 1))], [], q5.2))))))))
              else
              (if x3 = 0 then
                (some (.inr (14, [some (.ref 66), some (.int x1), some (.int 0), some (.int 0), some (.int x4), some (.int (x5 + 1))], [], q2.2)))
                else
                ((E.1 144 [.int x1, .int x5] q2.2).bind fun q4 =>
                  if q4.1 = 0 then
                    (some (.inr (14, [some (.ref 66), some (.int x1), some (.int 0), some (.int 1), some (.int x4), some (.int (x5 + 1))], [], q4.2)))
                    else
                    (zck (!(decide (q4.2.1 72 1 = 0)))
                      (zck (!(decide (q4.2.1 72 1 = 0)))
                        (if (zrem x5 (q4.2.1 72 1)) = (zrem x4 (q4.2.1 72 1)) then
                          (some (.inr (14, [some (.ref 66), some (.int x1), some (.int 0), some (.int 1), some (.int x4), some (.int (x5 + 1))], [], q4.2)))
                          else
                          (some (.inr (14, [some (.ref 66), some (.int x1), some (.int 0), some (.int 0), some (.int x4), some (.int (x5 + 1))], [], q4.2))))))))))))) := rfl
set_option maxRecDepth 100000 in
set_option maxHeartbeats 4000000 in
theorem e_X8_pieces_0 (E : ZE) (M : ZM) (x1 : Int32) (x2 : Int32) : zrun E tb_X8_pieces cu_X8_pieces 2000 [] 0 [some (.ref 66), some (.int x1), some (.int x2), none, none, none] [] M =
  if (M.1 72 0) = 0 then
  (some (.inl (some (.int (-1000002)), M)))
  else
  ((E.1 143 [.int x2, .int 0, .int 2] M).bind fun q1 =>
    if q1.1 = 0 then
      (some (.inl (some (.int (-1000001)), q1.2)))
      else
      ((E.1 143 [.int x1, .int 1, .int 10] q1.2).bind fun q2 =>
        if q2.1 = 0 then
          (some (.inl (some (.int (-1000001)), q2.2)))
          else
          (some (.inr (39, [some (.ref 66), some (.int x1), some (.int x2), some (.int 0), some (.int 1), none], [], q2.2))))) := rfl
set_option maxRecDepth 100000 in
set_option maxHeartbeats 4000000 in
theorem e_X8_pieces_39 (E : ZE) (M : ZM) (x1 : Int32) (x2 : Int32) (x3 : Int32) (x4 : Int32) : zrun E tb_X8_pieces cu_X8_pieces 2000 [] 39 [some (.ref 66), some (.int x1), some (.int x2), some (.int x3), some (.int x4), none] [] M =
  if (zshl 1 (M.1 72 0)) ≤ x4 then
  (some (.inl (some (.int x3), M)))
  else
  ((E.1 171 [.ref 66] M).bind fun q1 =>
    if (x4 &&& q1.1) = 0 then
      (if x2 = 0 then
        ((E.1 176 [.ref 66, .int x4] q1.2).bind fun q3 =>
          if q3.1 = 0 then
            (if (0 : Int32) = 0 then
              (some (.inr (39, [some (.ref 66), some (.int x1), some (.int x2), some (.int (x3 + 0)), some (.int (x4 + 1)), none], [], q3.2)))
              else
              (if x2 < 2 then
                (some (.inr (39, [some (.ref 66), some (.int x1), some (.int x2), some (.int (x3 + 1)), some (.int (x4 + 1)), none], [], q3.2)))
                else
                ((E.1 196 [.ref 66, .int x4] q3.2).bind fun q4 =>
                  if q4.1 = 0 then
                    (some (.inr (39, [some (.ref 66), some (.int x1), some (.int x2), some (.int (x3 + 0)), some (.int (x4 + 1)), none], [], q4.2)))
                    else
                    (some (.inr (39, [some (.ref 66), some (.int x1), some (.int x2), some (.int (x3 + 1)), some (.int (x4 + 1)), none], [], q4.2))))))
            else
            (if (1 : Int32) = 0 then
              (some (.inr (39, [some (.ref 66), some (.int x1), some (.int x2), some (.int (x3 + 0)), some (.int (x4 + 1)), none], [], q3.2)))
              else
              (if x2 < 2 then
                (some (.inr (39, [some (.ref 66), some (.int x1), some (.int x2), some (.int (x3 + 1)), some (.int (x4 + 1)), none], [], q3.2)))
                else
                ((E.1 196 [.ref 66, .int x4] q3.2).bind fun q5 =>
                  if q5.1 = 0 then
                    (some (.inr (39, [some (.ref 66), some (.int x1), some (.int x2), some (.int (x3 + 0)), some (.int (x4 + 1)), none], [], q5.2)))
                    else
                    (some (.inr (39, [some (.ref 66), some (.int x1), some (.int x2), some (.int (x3 + 1)), some (.int (x4 + 1)), none], [], q5.2)))))))
        else
        ((E.1 145 [.int x4] q1.2).bind fun q6 =>
          if q6.1 = x1 then
            ((E.1 176 [.ref 66, .int x4] q6.2).bind fun q8 =>
              if q8.1 = 0 then
                (if (0 : Int32) = 0 then
                  (some (.inr (39, [some (.ref 66), some (.int x1), some (.int x2), some (.int (x3 + 0)), some (.int (x4 + 1)), none], [], q8.2)))
                  else
                  (if x2 < 2 then
                    (some (.inr (39, [some (.ref 66), some (.int x1), some (.int x2), some (.int (x3 + 1)), some (.int (x4 + 1)), none], [], q8.2)))
                    else
                    ((E.1 196 [.ref 66, .int x4] q8.2).bind fun q9 =>
                      if q9.1 = 0 then
                        (some (.inr (39, [some (.ref 66), some (.int x1), some (.int x2), some (.int (x3 + 0)), some (.int (x4 + 1)), none], [], q9.2)))
                        else
                        (some (.inr (39, [some (.ref 66), some (.int x1), some (.int x2), some (.int (x3 + 1)), some (.int (x4 + 1)), none], [], q9.2))))))
                else
                (if (1 : Int32) = 0 then
                  (some (.inr (39, [some (.ref 66), some (.int x1), some (.int x2), some (.int (x3 + 0)), some (.int (x4 + 1)), none], [], q8.2)))
                  else
                  (if x2 < 2 then
                    (some (.inr (39, [some (.ref 66), some (.int x1), some (.int x2), some (.int (x3 + 1)), some (.int (x4 + 1)), none], [], q8.2)))
                    else
                    ((E.1 196 [.ref 66, .int x4] q8.2).bind fun q10 =>
                      if q10.1 = 0 then
                        (some (.inr (39, [some (.ref 66), some (.int x1), some (.int x2), some (.int (x3 + 0)), some (.int (x4 + 1)), none], [], q10.2)))
                        else
                        (some (.inr (39, [some (.ref 66), some (.int x1), some (.int x2), some (.int (x3 + 1)), some (.int (x4 + 1)), none], [], q10.2)))))))
            else
            (if (0 : Int32) = 0 then
              (some (.inr (39, [some (.ref 66), some (.int x1), some (.int x2), some (.int (x3 + 0)), some (.int (x4 + 1)), none], [], q6.2)))
              else
              (if x2 < 2 then
                (some (.inr (39, [some (.ref 66), some (.int x1), some (.int x2), some (.int (x3 + 1)), some (.int (x4 + 1)), none], [], q6.2)))
                else
                ((E.1 196 [.ref 66, .int x4] q6.2).bind fun q7 =>
                  if q7.1 = 0 then
                    (some (.inr (39, [some (.ref 66), some (.int x1), some (.int x2), some (.int (x3 + 0)), some (.int (x4 + 1)), none], [], q7.2)))
                    else
                    (some (.inr (39, [some (.ref 66), some (.int x1), some (.int x2), some (.int (x3 + 1)), some (.int (x4 + 1)), none], [], q7.2))))))))
      else
      (if (0 : Int32) = 0 then
        (some (.inr (39, [some (.ref 66), some (.int x1), some (.int x2), some (.int (x3 + 0)), some (.int (x4 + 1)), none], [], q1.2)))
        else
        (if x2 < 2 then
          (some (.inr (39, [some (.ref 66), some (.int x1), some (.int x2), some (.int (x3 + 1)), some (.int (x4 + 1)), none], [], q1.2)))
          else
          ((E.1 196 [.ref 66, .int x4] q1.2).bind fun q2 =>
            if q2.1 = 0 then
              (some (.inr (39, [some (.ref 66), some (.int x1), some (.int x2), some (.int (x3 + 0)), some (.int (x4 + 1)), none], [], q2.2)))
              else
              (some (.inr (39, [some (.ref 66), some (.int x1), some (.int x2), some (.int (x3 + 1)), some (.int (x4 + 1)), none], [], q2.2))))))) := rfl
set_option maxRecDepth 100000 in
set_option maxHeartbeats 4000000 in
theorem e_X8_sums_0 (E : ZE) (M : ZM) (x1 : Int32) : zrun E tb_X8_sums cu_X8_sums 2000 [] 0 [some (.ref 66), some (.int x1), none, none, none, none, none, none, none, none, none] [] M =
  if (M.1 72 0) = 0 then
  (some (.inl (some (.int (-1000002)), M)))
  else
  ((E.1 143 [.int x1, .int 0, .int 2] M).bind fun q1 =>
    if q1.1 = 0 then
      (some (.inl (some (.int (-1000001)), q1.2)))
      else
      ((E.2.2 194 [.ref 66] q1.2).bind fun q2 =>
        some (.inr (38, [some (.ref 66), some (.int x1), some (.int 0), some (.long 0), none, some (.long 0), none, some (.int 1), none, none, none], [], q2)))) := rfl
set_option maxRecDepth 100000 in
set_option maxHeartbeats 4000000 in
theorem e_X8_sums_38 (E : ZE) (M : ZM) (x1 : Int32) (x2 : Int32) (x3 : Int64) (x5 : Int64) (x7 : Int32) : zrun E tb_X8_sums cu_X8_sums 2000 [] 38 [some (.ref 66), some (.int x1), some (.int x2), some (.long x3), none, some (.long x5), none, some (.int x7), none, none, none] [] M =
  if (zshl 1 (M.1 72 0)) ≤ x7 then
  (some (.inr (139, [none, some (.int x1), some (.int x2), some (.long x3), none, some (.long x5), none, some (.int 0), some (.int (-1000000)), some (.int 99), none], [], M)))
  else
  ((E.1 195 [.ref 66, .int x7] M).bind fun q1 =>
    if q1.1 ≤ x2 then
      ((E.1 143 [.int q1.1, .int 0, .int 49] q1.2).bind fun q2 =>
        if q2.1 = 0 then
          ((E.1 143 [.int q1.1, .int 50, .int 99] q2.2).bind fun q3 =>
            if q3.1 = 0 then
              (some (.inr (38, [some (.ref 66), some (.int x1), some (.int x2), some (.long (x3 ||| 0)), none, some (.long (x5 ||| 0)), none, some (.int (x7 + 1)), none, none, none], [], q3.2)))
              else
              (some (.inr (38, [some (.ref 66), some (.int x1), some (.int x2), some (.long (x3 ||| 0)), none, some (.long (x5 ||| (zlshl 1 (q1.1 - 50)))), none, some (.int (x7 + 1)), none, none, none], [], q3.2))))
          else
          ((E.1 143 [.int q1.1, .int 50, .int 99] q2.2).bind fun q4 =>
            if q4.1 = 0 then
              (some (.inr (38, [some (.ref 66), some (.int x1), some (.int x2), some (.long (x3 ||| (zlshl 1 q1.1))), none, some (.long (x5 ||| 0)), none, some (.int (x7 + 1)), none, none, none], [], q4.2)))
              else
              (some (.inr (38, [some (.ref 66), some (.int x1), some (.int x2), some (.long (x3 ||| (zlshl 1 q1.1))), none, some (.long (x5 ||| (zlshl 1 (q1.1 - 50)))), none, some (.int (x7 + 1)), none, none, none], [], q4.2)))))
      else
      ((E.1 143 [.int q1.1, .int 0, .int 49] q1.2).bind fun q5 =>
        if q5.1 = 0 then
          ((E.1 143 [.int q1.1, .int 50, .int 99] q5.2).bind fun q6 =>
            if q6.1 = 0 then
              (some (.inr (38, [some (.ref 66), some (.int x1), some (.int q1.1), some (.long (x3 ||| 0)), none, some (.long (x5 ||| 0)), none, some (.int (x7 + 1)), none, none, none], [], q6.2)))
              else
              (some (.inr (38, [some (.ref 66), some (.int x1), some (.int q1.1), some (.long (x3 ||| 0)), none, some (.long (x5 ||| (zlshl 1 (q1.1 - 50)))), none, some (.int (x7 + 1)), none, none, none], [], q6.2))))
          else
          ((E.1 143 [.int q1.1, .int 50, .int 99] q5.2).bind fun q7 =>
            if q7.1 = 0 then
              (some (.inr (38, [some (.ref 66), some (.int x1), some (.int q1.1), some (.long (x3 ||| (zlshl 1 q1.1))), none, some (.long (x5 ||| 0)), none, some (.int (x7 + 1)), none, none, none], [], q7.2)))
              else
              (some (.inr (38, [some (.ref 66), some (.int x1), some (.int q1.1), some (.long (x3 ||| (zlshl 1 q1.1))), none, some (.long (x5 ||| (zlshl 1 (q1.1 - 50)))), none, some (.int (x7 + 1)), none, none, none], [], q7.2)))))) := rfl
set_option maxRecDepth 100000 in
set_option maxHeartbeats 4000000 in
theorem e_X8_sums_139 (E : ZE) (M : ZM) (x1 : Int32) (x2 : Int32) (x3 : Int64) (x5 : Int64) (x7 : Int32) (x8 : Int32) (x9 : Int32) : zrun E tb_X8_sums cu_X8_sums 2000 [] 139 [none, some (.int x1), some (.int x2), some (.long x3), none, some (.long x5), none, some (.int x7), some (.int x8), some (.int x9), none] [] M =
  if x9 < 0 then
  (if x1 = 0 then
    (some (.inl (some (.int x7), M)))
    else
    (if x1 = 1 then
      (some (.inl (some (.int x8), M)))
      else
      (some (.inl (some (.int x2), M)))))
  else
  (if 50 ≤ x9 then
    (if (lg_cmp ((zlshr x5 (x9 - 50)) &&& 1) 1) = 0 then
      (if (1 : Int32) = 0 then
        (if (1 : Int32) = 0 then
          (some (.inr (139, [none, some (.int x1), some (.int x2), some (.long x3), none, some (.long x5), none, some (.int (x7 + 0)), some (.int x9), some (.int (x9 + (-1))), none], [], M)))
          else
          (some (.inr (139, [none, some (.int x1), some (.int x2), some (.long x3), none, some (.long x5), none, some (.int (x7 + 0)), some (.int x8), some (.int (x9 + (-1))), none], [], M))))
        else
        (if (1 : Int32) = 0 then
          (some (.inr (139, [none, some (.int x1), some (.int x2), some (.long x3), none, some (.long x5), none, some (.int (x7 + 1)), some (.int x9), some (.int (x9 + (-1))), none], [], M)))
          else
          (some (.inr (139, [none, some (.int x1), some (.int x2), some (.long x3), none, some (.long x5), none, some (.int (x7 + 1)), some (.int x8), some (.int (x9 + (-1))), none], [], M)))))
      else
      (if (0 : Int32) = 0 then
        (if (0 : Int32) = 0 then
          (some (.inr (139, [none, some (.int x1), some (.int x2), some (.long x3), none, some (.long x5), none, some (.int (x7 + 0)), some (.int x9), some (.int (x9 + (-1))), none], [], M)))
          else
          (some (.inr (139, [none, some (.int x1), some (.int x2), some (.long x3), none, some (.long x5), none, some (.int (x7 + 0)), some (.int x8), some (.int (x9 + (-1))), none], [], M))))
        else
        (if (0 : Int32) = 0 then
          (some (.inr (139, [none, some (.int x1), some (.int x2), some (.long x3), none, some (.long x5), none, some (.int (x7 + 1)), some (.int x9), some (.int (x9 + (-1))), none], [], M)))
          else
          (some (.inr (139, [none, some (.int x1), some (.int x2), some (.long x3), none, some (.long x5), none, some (.int (x7 + 1)), some (.int x8), some (.int (x9 + (-1))), none], [], M))))))
    else
    (if (lg_cmp ((zlshr x3 x9) &&& 1) 1) = 0 then
      (if (1 : Int32) = 0 then
        (if (1 : Int32) = 0 then
          (some (.inr (139, [none, some (.int x1), some (.int x2), some (.long x3), none, some (.long x5), none, some (.int (x7 + 0)), some (.int x9), some (.int (x9 + (-1))), none], [], M)))
          else
          (some (.inr (139, [none, some (.int x1), some (.int x2), some (.long x3), none, some (.long x5), none, some (.int (x7 + 0)), some (.int x8), some (.int (x9 + (-1))), none], [], M))))
        else
        (if (1 : Int32) = 0 then
          (some (.inr (139, [none, some (.int x1), some (.int x2), some (.long x3), none, some (.long x5), none, some (.int (x7 + 1)), some (.int x9), some (.int (x9 + (-1))), none], [], M)))
          else
          (some (.inr (139, [none, some (.int x1), some (.int x2), some (.long x3), none, some (.long x5), none, some (.int (x7 + 1)), some (.int x8), some (.int (x9 + (-1))), none], [], M)))))
      else
      (if (0 : Int32) = 0 then
        (if (0 : Int32) = 0 then
          (some (.inr (139, [none, some (.int x1), some (.int x2), some (.long x3), none, some (.long x5), none, some (.int (x7 + 0)), some (.int x9), some (.int (x9 + (-1))), none], [], M)))
          else
          (some (.inr (139, [none, some (.int x1), some (.int x2), some (.long x3), none, some (.long x5), none, some (.int (x7 + 0)), some (.int x8), some (.int (x9 + (-1))), none], [], M))))
        else
        (if (0 : Int32) = 0 then
          (some (.inr (139, [none, some (.int x1), some (.int x2), some (.long x3), none, some (.long x5), none, some (.int (x7 + 1)), some (.int x9), some (.int (x9 + (-1))), none], [], M)))
          else
          (some (.inr (139, [none, some (.int x1), some (.int x2), some (.long x3), none, some (.long x5), none, some (.int (x7 + 1)), some (.int x8), some (.int (x9 + (-1))), none], [], M))))))) := rfl
set_option maxRecDepth 100000 in
set_option maxHeartbeats 4000000 in
theorem e_X8_fitsFor_0 (E : ZE) (M : ZM) (x1 : Int32) (x2 : Int32) : zrun E tb_X8_fitsFor cu_X8_fitsFor 2000 [] 0 [some (.ref 66), some (.int x1), some (.int x2)] [] M =
  (E.1 195 [.ref 66, .int x2] M).bind fun q1 =>
  zck (zin (13 + x1) 41)
    (zck (zin (18 + x1) 41)
      ((E.1 143 [.int q1.1, .int (q1.2.1 72 (13 + x1).toNatClampNeg), .int (q1.2.1 72 (18 + x1).toNatClampNeg)] q1.2).bind fun q2 =>
        zck (zb01 q2.1)
          (some (.inl (some (.int q2.1), q2.2))))) := rfl
set_option maxRecDepth 100000 in
set_option maxHeartbeats 4000000 in
theorem e_X8_bestFor_0 (E : ZE) (M : ZM) (x1 : Int32) : zrun E tb_X8_bestFor cu_X8_bestFor 2000 [] 0 [some (.ref 66), some (.int x1), none, none, none] [] M =
  some (.inr (4, [some (.ref 66), some (.int x1), some (.int 0), some (.int 1), none], [], M)) := rfl
set_option maxRecDepth 100000 in
set_option maxHeartbeats 4000000 in
theorem e_X8_bestFor_4 (E : ZE) (M : ZM) (x1 : Int32) (x2 : Int32) (x3 : Int32) : zrun E tb_X8_bestFor cu_X8_bestFor 2000 [] 4 [some (.ref 66), some (.int x1), some (.int x2), some (.int x3), none] [] M =
  if (zshl 1 (M.1 72 0)) ≤ x3 then
  (some (.inl (some (.int x2), M)))
  else
  ((E.1 199 [.ref 66, .int x1, .int x3] M).bind fun q1 =>
    if q1.1 = 0 then
      (some (.inr (4, [some (.ref 66), some (.int x1), some (.int x2), some (.int (x3 + 1)), none], [], q1.2)))
      else
      (if x2 = 0 then
        (if (-1 : Int32) < 0 then
          (some (.inr (4, [some (.ref 66), some (.int x1), some (.int x3), some (.int (x3 + 1)), none], [], q1.2)))
          else
          (if (-1 : Int32) = 0 then
            ((E.1 145 [.int x3] q1.2).bind fun q6 =>
              (E.1 145 [.int x2] q6.2).bind fun q7 =>
                if q7.1 ≤ q6.1 then
                  (some (.inr (4, [some (.ref 66), some (.int x1), some (.int x2), some (.int (x3 + 1)), none], [], q7.2)))
                  else
                  (some (.inr (4, [some (.ref 66), some (.int x1), some (.int x3), some (.int (x3 + 1)), none], [], q7.2))))
            else
            (some (.inr (4, [some (.ref 66), some (.int x1), some (.int x2), some (.int (x3 + 1)), none], [], q1.2)))))
        else
        ((E.1 179 [.ref 66, .int x3] q1.2).bind fun q2 =>
          (E.1 179 [.ref 66, .int x2] q2.2).bind fun q3 =>
            if (q2.1 - q3.1) < 0 then
              (some (.inr (4, [some (.ref 66), some (.int x1), some (.int x3), some (.int (x3 + 1)), none], [], q3.2)))
              else
              (if (q2.1 - q3.1) = 0 then
                ((E.1 145 [.int x3] q3.2).bind fun q4 =>
                  (E.1 145 [.int x2] q4.2).bind fun q5 =>
                    if q5.1 ≤ q4.1 then
                      (some (.inr (4, [some (.ref 66), some (.int x1), some (.int x2), some (.int (x3 + 1)), none], [], q5.2)))
                      else
                      (some (.inr (4, [some (.ref 66), some (.int x1), some (.int x3), some (.int (x3 + 1)), none], [], q5.2))))
                else
                (some (.inr (4, [some (.ref 66), some (.int x1), some (.int x2), some (.int (x3 + 1)), none], [], q3.2))))))) := rfl
set_option maxRecDepth 100000 in
set_option maxHeartbeats 4000000 in
theorem e_X8_best_0 (E : ZE) (M : ZM) (x1 : Int32) (x2 : Int32) : zrun E tb_X8_best cu_X8_best 2000 [] 0 [some (.ref 66), some (.int x1), some (.int x2), none] [] M =
  (E.1 170 [.ref 66, .int x1] M).bind fun q1 =>
  if q1.1 = 0 then
    (some (.inl (some (.int (-1000001)), q1.2)))
    else
    ((E.1 143 [.int x2, .int 0, .int 1] q1.2).bind fun q2 =>
      if q2.1 = 0 then
        (some (.inl (some (.int (-1000001)), q2.2)))
        else
        (zck (zin (26 + x1) 41)
          (if (q2.2.1 72 (26 + x1).toNatClampNeg) ≤ 0 then
            ((E.2.2 194 [.ref 66] q2.2).bind fun q3 =>
              (E.1 200 [.ref 66, .int x1] q3).bind fun q4 =>
                if q4.1 = 0 then
                  (some (.inl (some (.int (-1000000)), q4.2)))
                  else
                  (if x2 = 0 then
                    (some (.inl (some (.int q4.1), q4.2)))
                    else
                    ((E.1 179 [.ref 66, .int q4.1] q4.2).bind fun q5 =>
                      some (.inl (some (.int q5.1), q5.2)))))
            else
            (some (.inl (some (.int (-1000002)), q2.2)))))) := rfl
set_option maxRecDepth 100000 in
set_option maxHeartbeats 4000000 in
theorem e_X8_ways_0 (E : ZE) (M : ZM) (x1 : Int32) : zrun E tb_X8_ways cu_X8_ways 2000 [] 0 [some (.ref 66), some (.int x1), none, none] [] M =
  (E.1 170 [.ref 66, .int x1] M).bind fun q1 =>
  if q1.1 = 0 then
    (some (.inl (some (.int (-1000001)), q1.2)))
    else
    (zck (zin (26 + x1) 41)
      (if (q1.2.1 72 (26 + x1).toNatClampNeg) ≤ 0 then
        ((E.2.2 194 [.ref 66] q1.2).bind fun q2 =>
          some (.inr (34, [some (.ref 66), some (.int x1), some (.int 0), some (.int 1)], [], q2)))
        else
        (some (.inl (some (.int (-1000002)), q1.2))))) := rfl
set_option maxRecDepth 100000 in
set_option maxHeartbeats 4000000 in
theorem e_X8_ways_34 (E : ZE) (M : ZM) (x1 : Int32) (x2 : Int32) (x3 : Int32) : zrun E tb_X8_ways cu_X8_ways 2000 [] 34 [some (.ref 66), some (.int x1), some (.int x2), some (.int x3)] [] M =
  if (zshl 1 (M.1 72 0)) ≤ x3 then
  (some (.inl (some (.int x2), M)))
  else
  ((E.1 199 [.ref 66, .int x1, .int x3] M).bind fun q1 =>
    if q1.1 = 0 then
      (some (.inr (34, [some (.ref 66), some (.int x1), some (.int (x2 + 0)), some (.int (x3 + 1))], [], q1.2)))
      else
      (some (.inr (34, [some (.ref 66), some (.int x1), some (.int (x2 + 1)), some (.int (x3 + 1))], [], q1.2)))) := rfl
set_option maxRecDepth 100000 in
set_option maxHeartbeats 4000000 in
theorem e_X8_thrift_0 (E : ZE) (M : ZM) (x1 : Int32) (x2 : Int32) : zrun E tb_X8_thrift cu_X8_thrift 2000 [] 0 [some (.ref 66), some (.int x1), some (.int x2), none, none] [] M =
  (E.1 170 [.ref 66, .int x1] M).bind fun q1 =>
  if q1.1 = 0 then
    (some (.inl (some (.int (-1000001)), q1.2)))
    else
    ((E.1 143 [.int x2, .int 0, .int 1] q1.2).bind fun q2 =>
      if q2.1 = 0 then
        (some (.inl (some (.int (-1000001)), q2.2)))
        else
        (zck (zin (26 + x1) 41)
          (if (q2.2.1 72 (26 + x1).toNatClampNeg) ≤ 0 then
            ((E.2.2 194 [.ref 66] q2.2).bind fun q3 =>
              some (.inr (44, [some (.ref 66), some (.int x1), some (.int x2), some (.int 0), some (.int 1)], [], q3)))
            else
            (some (.inl (some (.int (-1000002)), q2.2)))))) := rfl
set_option maxRecDepth 100000 in
set_option maxHeartbeats 4000000 in
theorem e_X8_thrift_44 (E : ZE) (M : ZM) (x1 : Int32) (x2 : Int32) (x3 : Int32) (x4 : Int32) : zrun E tb_X8_thrift cu_X8_thrift 2000 [] 44 [some (.ref 66), some (.int x1), some (.int x2), some (.int x3), some (.int x4)] [] M =
  if (zshl 1 (M.1 72 0)) ≤ x4 then
  (if x3 = 0 then
    (some (.inl (some (.int (-1000000)), M)))
    else
    (if x2 = 0 then
      (some (.inl (some (.int x3), M)))
      else
      ((E.1 195 [.ref 66, .int x3] M).bind fun q1 =>
        some (.inl (some (.int q1.1), q1.2)))))
  else
  ((E.1 199 [.ref 66, .int x1, .int x4] M).bind fun q2 =>
    if q2.1 = 0 then
      (some (.inr (44, [some (.ref 66), some (.int x1), some (.int x2), some (.int x3), some (.int (x4 + 1))], [], q2.2)))
      else
      (if x3 = 0 then
        (some (.inr (44, [some (.ref 66), some (.int x1), some (.int x2), some (.int x4), some (.int (x4 + 1))], [], q2.2)))
        else
        ((E.1 195 [.ref 66, .int x4] q2.2).bind fun q3 =>
          (E.1 195 [.ref 66, .int x3] q3.2).bind fun q4 =>
            if q4.1 ≤ q3.1 then
              (some (.inr (44, [some (.ref 66), some (.int x1), some (.int x2), some (.int x3), some (.int (x4 + 1))], [], q4.2)))
              else
              (some (.inr (44, [some (.ref 66), some (.int x1), some (.int x2), some (.int x4), some (.int (x4 + 1))], [], q4.2)))))) := rfl
set_option maxRecDepth 100000 in
set_option maxHeartbeats 4000000 in
theorem e_X8_serveAll_0 (E : ZE) (M : ZM) : zrun E tb_X8_serveAll cu_X8_serveAll 2000 [] 0 [some (.ref 66), none, none, none, none, none, none, none, none, none, none, none, none, none, none] [] M =
  (E.2.2 194 [.ref 66] M).bind fun q1 =>
  (E.1 173 [.ref 66] q1).bind fun q2 =>
    some (.inr (11, [some (.ref 66), some (.int q2.1), some (.int 0), none, none, none, none, none, none, none, none, none, none, none, none], [], q2.2)) := rfl
set_option maxRecDepth 100000 in
set_option maxHeartbeats 4000000 in
theorem e_X8_serveAll_11 (E : ZE) (M : ZM) (x1 : Int32) (x2 : Int32) : zrun E tb_X8_serveAll cu_X8_serveAll 2000 [] 11 [some (.ref 66), some (.int x1), some (.int x2), none, none, none, none, none, none, none, none, none, none, none, none] [] M =
  if (zshl 1 (M.1 72 0)) ≤ x2 then
  (some (.inl (none, M)))
  else
  ((E.1 171 [.ref 66] M).bind fun q1 =>
    if (x2 &&& q1.1) = 0 then
      (if x2 ≤ 0 then
        (zck (zin x2 1024)
          (zck (zin x2 1024)
            (some (.inr (11, [some (.ref 66), some (.int x1), some (.int (x2 + 1)), none, none, none, none, none, none, none, none, none, none, none, none], [], zwl q1.2 78 x2.toNatClampNeg (((q1.2.2 78 x2.toNatClampNeg) &&& (-4294967296)) ||| 1))))))
        else
        ((E.1 175 [.int x2] q1.2).bind fun q2 =>
          zck (zin (x2 &&& ((zshl 1 q2.1) ^^^ (-1))) 1024)
            (some (.inr (79, [some (.ref 66), some (.int x1), some (.int x2), some (.long (1 ||| ((q2.2.2 78 (x2 &&& ((zshl 1 q2.1) ^^^ (-1))).toNatClampNeg) &&& 4294967295))), none, some (.int (zshl 1 q2.1)), some (.int (x2 &&& ((zshl 1 q2.1) ^^^ (-1)))), some (.int (x2 &&& ((zshl 1 q2.1) ^^^ (-1)))), some (.int 1), none, none, none, none, none, none], [], q2.2)))))
      else
      (zck (zin x2 1024)
        (zck (zin x2 1024)
          (some (.inr (11, [some (.ref 66), some (.int x1), some (.int (x2 + 1)), none, none, none, none, none, none, none, none, none, none, none, none], [], zwl q1.2 78 x2.toNatClampNeg (((q1.2.2 78 x2.toNatClampNeg) &&& (-4294967296)) ||| 1))))))) := rfl
set_option maxRecDepth 100000 in
set_option maxHeartbeats 4000000 in
theorem e_X8_serveAll_79 (E : ZE) (M : ZM) (x1 : Int32) (x2 : Int32) (x3 : Int64) (x5 : Int32) (x6 : Int32) (x7 : Int32) (x8 : Int32) : zrun E tb_X8_serveAll cu_X8_serveAll 2000 [] 79 [some (.ref 66), some (.int x1), some (.int x2), some (.long x3), none, some (.int x5), some (.int x6), some (.int x7), some (.int x8), none, none, none, none, none, none] [] M =
  if x8 = 0 then
  (zck (zin x2 1024)
    (zck (zin x2 1024)
      (some (.inr (11, [some (.ref 66), some (.int x1), some (.int (x2 + 1)), none, none, none, none, none, none, none, none, none, none, none, none], [], zwl M 78 x2.toNatClampNeg (((M.2 78 x2.toNatClampNeg) &&& (-4294967296)) ||| x3))))))
  else
  (zck (zin (x2 &&& ((x7 ||| x5) ^^^ (-1))) 1024)
    ((E.1 195 [.ref 66, .int (x7 ||| x5)] M).bind fun q1 =>
      some (.inr (119, [some (.ref 66), some (.int x1), some (.int x2), some (.long x3), none, some (.int x5), some (.int x6), some (.int x7), none, none, some (.long ((M.2 78 (x2 &&& ((x7 ||| x5) ^^^ (-1))).toNatClampNeg) &&& 4294967295)), none, some (.int q1.1), some (.int 0), none], [], q1.2)))) := rfl
set_option maxRecDepth 100000 in
set_option maxHeartbeats 4000000 in
theorem e_X8_serveAll_119 (E : ZE) (M : ZM) (x1 : Int32) (x2 : Int32) (x3 : Int64) (x5 : Int32) (x6 : Int32) (x7 : Int32) (x10 : Int64) (x12 : Int32) (x13 : Int32) : zrun E tb_X8_serveAll cu_X8_serveAll 2000 [] 119 [some (.ref 66), some (.int x1), some (.int x2), some (.long x3), none, some (.int x5), some (.int x6), some (.int x7), none, none, some (.long x10), none, some (.int x12), some (.int x13), none] [] M =
  if (M.1 72 2) ≤ x13 then
  (if x7 ≤ 0 then
    (some (.inr (79, [some (.ref 66), some (.int x1), some (.int x2), some (.long x3), none, some (.int x5), some (.int x6), some (.int ((x7 - 1) &&& x6)), some (.int 0), none, none, none, none, none, none], [], M)))
    else
    (some (.inr (79, [some (.ref 66), some (.int x1), some (.int x2), some (.long x3), none, some (.int x5), some (.int x6), some (.int ((x7 - 1) &&& x6)), some (.int 1), none, none, none, none, none, none], [], M))))
  else
  ((E.1 144 [.int x1, .int x13] M).bind fun q1 =>
    if q1.1 = 0 then
      (zck (zin (13 + x13) 41)
        (zck (zin (18 + x13) 41)
          ((E.1 143 [.int x12, .int (q1.2.1 72 (13 + x13).toNatClampNeg), .int (q1.2.1 72 (18 + x13).toNatClampNeg)] q1.2).bind fun q2 =>
            if q2.1 = 0 then
              (if (0 : Int32) = 0 then
                (some (.inr (119, [some (.ref 66), some (.int x1), some (.int x2), some (.long (x3 ||| 0)), none, some (.int x5), some (.int x6), some (.int x7), none, none, some (.long x10), none, some (.int x12), some (.int (x13 + 1)), none], [], q2.2)))
                else
                (zck (zin x13 5)
                  (some (.inr (119, [some (.ref 66), some (.int x1), some (.int x2), some (.long (x3 ||| (zlshl (x10 &&& (q2.2.2 80 x13.toNatClampNeg)) (zshl 1 x13)))), none, some (.int x5), some (.int x6), some (.int x7), none, none, some (.long x10), none, some (.int x12), some (.int (x13 + 1)), none], [], q2.2)))))
              else
              (if (1 : Int32) = 0 then
                (some (.inr (119, [some (.ref 66), some (.int x1), some (.int x2), some (.long (x3 ||| 0)), none, some (.int x5), some (.int x6), some (.int x7), none, none, some (.long x10), none, some (.int x12), some (.int (x13 + 1)), none], [], q2.2)))
                else
                (zck (zin x13 5)
                  (some (.inr (119, [some (.ref 66), some (.int x1), some (.int x2), some (.long (x3 ||| (zlshl (x10 &&& (q2.2.2 80 x13.toNatClampNeg)) (zshl 1 x13)))), none, some (.int x5), some (.int x6), some (.int x7), none, none, some (.long x10), none, some (.int x12), some (.int (x13 + 1)), none], [], q2.2))))))))
      else
      (if (0 : Int32) = 0 then
        (some (.inr (119, [some (.ref 66), some (.int x1), some (.int x2), some (.long (x3 ||| 0)), none, some (.int x5), some (.int x6), some (.int x7), none, none, some (.long x10), none, some (.int x12), some (.int (x13 + 1)), none], [], q1.2)))
        else
        (zck (zin x13 5)
          (some (.inr (119, [some (.ref 66), some (.int x1), some (.int x2), some (.long (x3 ||| (zlshl (x10 &&& (q1.2.2 80 x13.toNatClampNeg)) (zshl 1 x13)))), none, some (.int x5), some (.int x6), some (.int x7), none, none, some (.long x10), none, some (.int x12), some (.int (x13 + 1)), none], [], q1.2)))))) := rfl
set_option maxRecDepth 100000 in
set_option maxHeartbeats 4000000 in
theorem e_X8_can_0 (E : ZE) (M : ZM) (x0 : Int64) (x2 : Int32) : zrun E tb_X8_can cu_X8_can 2000 [] 0 [some (.long x0), none, some (.int x2)] [] M =
  if (lg_cmp ((zlshr x0 x2) &&& 1) 1) = 0 then
  (some (.inl (some (.int 1), M)))
  else
  (some (.inl (some (.int 0), M))) := rfl
set_option maxRecDepth 100000 in
set_option maxHeartbeats 4000000 in
theorem e_X8_serving_0 (E : ZE) (M : ZM) (x1 : Int32) : zrun E tb_X8_serving cu_X8_serving 2000 [] 0 [some (.ref 66), some (.int x1), none, none, none, none, none, none, none] [] M =
  if (M.1 72 0) = 0 then
  (some (.inl (some (.int (-1000002)), M)))
  else
  ((E.1 143 [.int x1, .int (-2), .int ((M.1 72 2) - 1)] M).bind fun q1 =>
    if q1.1 = 0 then
      (some (.inl (some (.int (-1000001)), q1.2)))
      else
      ((E.2.2 204 [.ref 66] q1.2).bind fun q2 =>
        (E.1 172 [.ref 66] q2).bind fun q3 =>
          some (.inr (46, [some (.ref 66), some (.int x1), some (.int q3.1), some (.int 0), some (.int 1), none, none, none, none], [], q3.2)))) := rfl
set_option maxRecDepth 100000 in
set_option maxHeartbeats 4000000 in
theorem e_X8_serving_46 (E : ZE) (M : ZM) (x1 : Int32) (x2 : Int32) (x3 : Int32) (x4 : Int32) : zrun E tb_X8_serving cu_X8_serving 2000 [] 46 [some (.ref 66), some (.int x1), some (.int x2), some (.int x3), some (.int x4), none, none, none, none] [] M =
  if 32 ≤ x4 then
  (if 0 ≤ x1 then
    (some (.inr (122, [some (.ref 66), some (.int x1), none, some (.int x3), some (.int x2), some (.int x3), some (.int 0), some (.int 0), none], [], M)))
    else
    (if x1 = (-1) then
      ((E.1 145 [.int x3] M).bind fun q1 =>
        some (.inl (some (.int q1.1), q1.2)))
      else
      (some (.inl (some (.int x3), M)))))
  else
  (zck (zin x2 1024)
    ((E.1 205 [.long (M.2 78 x2.toNatClampNeg), .int x4] M).bind fun q2 =>
      if q2.1 = 0 then
        (some (.inr (46, [some (.ref 66), some (.int x1), some (.int x2), some (.int x3), some (.int (x4 + 1)), none, none, none, none], [], q2.2)))
        else
        ((E.1 145 [.int x4] q2.2).bind fun q3 =>
          (E.1 145 [.int x3] q3.2).bind fun q4 =>
            if q3.1 ≤ q4.1 then
              (some (.inr (46, [some (.ref 66), some (.int x1), some (.int x2), some (.int x3), some (.int (x4 + 1)), none, none, none, none], [], q4.2)))
              else
              (some (.inr (46, [some (.ref 66), some (.int x1), some (.int x2), some (.int x4), some (.int (x4 + 1)), none, none, none, none], [], q4.2)))))) := rfl
set_option maxRecDepth 100000 in
set_option maxHeartbeats 4000000 in
theorem e_X8_serving_122 (E : ZE) (M : ZM) (x1 : Int32) (x3 : Int32) (x4 : Int32) (x5 : Int32) (x6 : Int32) (x7 : Int32) : zrun E tb_X8_serving cu_X8_serving 2000 [] 122 [some (.ref 66), some (.int x1), none, some (.int x3), some (.int x4), some (.int x5), some (.int x6), some (.int x7), none] [] M =
  if x1 < x7 then
  (some (.inl (some (.int x6), M)))
  else
  ((E.1 144 [.int x3, .int x7] M).bind fun q1 =>
    if q1.1 = 0 then
      (some (.inr (122, [some (.ref 66), some (.int x1), none, some (.int x3), some (.int x4), some (.int x5), some (.int 0), some (.int (x7 + 1)), none], [], q1.2)))
      else
      (some (.inr (154, [some (.ref 66), some (.int x1), none, some (.int x3), some (.int x4), some (.int (x5 &&& ((zshl 1 x7) ^^^ (-1)))), none, some (.int x7), some (.int 1)], [], q1.2)))) := rfl
set_option maxRecDepth 100000 in
set_option maxHeartbeats 4000000 in
theorem e_X8_serving_154 (E : ZE) (M : ZM) (x1 : Int32) (x3 : Int32) (x4 : Int32) (x5 : Int32) (x7 : Int32) (x8 : Int32) : zrun E tb_X8_serving cu_X8_serving 2000 [] 154 [some (.ref 66), some (.int x1), none, some (.int x3), some (.int x4), some (.int x5), none, some (.int x7), some (.int x8)] [] M =
  if (x8 &&& (x4 ^^^ (-1))) = 0 then
  ((E.1 199 [.ref 66, .int x7, .int x8] M).bind fun q1 =>
    if q1.1 = 0 then
      (some (.inr (154, [some (.ref 66), some (.int x1), none, some (.int x3), some (.int x4), some (.int x5), none, some (.int x7), some (.int (x8 + 1))], [], q1.2)))
      else
      (zck (zin (x4 &&& (x8 ^^^ (-1))) 1024)
        ((E.1 205 [.long (q1.2.2 78 (x4 &&& (x8 ^^^ (-1))).toNatClampNeg), .int x5] q1.2).bind fun q2 =>
          if q2.1 = 0 then
            (some (.inr (154, [some (.ref 66), some (.int x1), none, some (.int x3), some (.int x4), some (.int x5), none, some (.int x7), some (.int (x8 + 1))], [], q2.2)))
            else
            (some (.inr (122, [some (.ref 66), some (.int x1), none, some (.int x3), some (.int (x4 &&& (x8 ^^^ (-1)))), some (.int x5), some (.int x8), some (.int (x7 + 1)), none], [], q2.2))))))
  else
  (some (.inr (154, [some (.ref 66), some (.int x1), none, some (.int x3), some (.int x4), some (.int x5), none, some (.int x7), some (.int (x8 + 1))], [], M))) := rfl
set_option maxRecDepth 100000 in
set_option maxHeartbeats 4000000 in
theorem e_X8_couples_0 (E : ZE) (M : ZM) : zrun E tb_X8_couples cu_X8_couples 2000 [] 0 [some (.ref 66), none, none, none, none, none, none] [] M =
  if (M.1 72 0) = 0 then
  (some (.inl (some (.int (-1000002)), M)))
  else
  (some (.inr (14, [some (.ref 66), some (.int 0), none, none, none, none, none], [], M))) := rfl
set_option maxRecDepth 100000 in
set_option maxHeartbeats 4000000 in
theorem e_X8_couples_14 (E : ZE) (M : ZM) (x1 : Int32) : zrun E tb_X8_couples cu_X8_couples 2000 [] 14 [some (.ref 66), some (.int x1), none, none, none, none, none] [] M =
  if (zshl 1 (M.1 72 0)) ≤ x1 then
  ((E.1 172 [.ref 66] M).bind fun q1 =>
    zck (zin q1.1 1024)
      (some (.inl (some (.int (Int64.toInt32 (q1.2.2 78 q1.1.toNatClampNeg))), q1.2))))
  else
  (if x1 = 0 then
    (if x1 = 0 then
      (some (.inr (56, [some (.ref 66), some (.int x1), some (.long 1), none, some (.int 0), some (.int (0 + 1)), none], [], M)))
      else
      ((E.1 175 [.int x1] M).bind fun q3 =>
        some (.inr (56, [some (.ref 66), some (.int x1), some (.long 1), none, some (.int q3.1), some (.int (q3.1 + 1)), none], [], q3.2))))
    else
    (if x1 = 0 then
      (some (.inr (56, [some (.ref 66), some (.int x1), some (.long 0), none, some (.int 0), some (.int (0 + 1)), none], [], M)))
      else
      ((E.1 175 [.int x1] M).bind fun q2 =>
        some (.inr (56, [some (.ref 66), some (.int x1), some (.long 0), none, some (.int q2.1), some (.int (q2.1 + 1)), none], [], q2.2))))) := rfl
set_option maxRecDepth 100000 in
set_option maxHeartbeats 4000000 in
theorem e_X8_couples_56 (E : ZE) (M : ZM) (x1 : Int32) (x2 : Int64) (x4 : Int32) (x5 : Int32) : zrun E tb_X8_couples cu_X8_couples 2000 [] 56 [some (.ref 66), some (.int x1), some (.long x2), none, some (.int x4), some (.int x5), none] [] M =
  if (M.1 72 0) ≤ x5 then
  (zck (zin x1 1024)
    (some (.inr (14, [some (.ref 66), some (.int (x1 + 1)), none, none, none, none, none], [], zwl M 78 x1.toNatClampNeg x2))))
  else
  (if x1 ≤ 0 then
    (if (0 : Int32) = 0 then
      (some (.inr (56, [some (.ref 66), some (.int x1), some (.long (x2 + 0)), none, some (.int x4), some (.int (x5 + 1)), none], [], M)))
      else
      (zck (zin ((x1 &&& ((zshl 1 x4) ^^^ (-1))) &&& ((zshl 1 x5) ^^^ (-1))) 1024)
        (some (.inr (56, [some (.ref 66), some (.int x1), some (.long (x2 + (M.2 78 ((x1 &&& ((zshl 1 x4) ^^^ (-1))) &&& ((zshl 1 x5) ^^^ (-1))).toNatClampNeg))), none, some (.int x4), some (.int (x5 + 1)), none], [], M)))))
    else
    ((E.1 144 [.int x1, .int x5] M).bind fun q1 =>
      if q1.1 = 0 then
        (if (0 : Int32) = 0 then
          (some (.inr (56, [some (.ref 66), some (.int x1), some (.long (x2 + 0)), none, some (.int x4), some (.int (x5 + 1)), none], [], q1.2)))
          else
          (zck (zin ((x1 &&& ((zshl 1 x4) ^^^ (-1))) &&& ((zshl 1 x5) ^^^ (-1))) 1024)
            (some (.inr (56, [some (.ref 66), some (.int x1), some (.long (x2 + (q1.2.2 78 ((x1 &&& ((zshl 1 x4) ^^^ (-1))) &&& ((zshl 1 x5) ^^^ (-1))).toNatClampNeg))), none, some (.int x4), some (.int (x5 + 1)), none], [], q1.2)))))
        else
        (zck (zin x4 10)
          ((E.1 144 [.int (q1.2.1 74 x4.toNatClampNeg), .int x5] q1.2).bind fun q2 =>
            if q2.1 = 0 then
              (if (0 : Int32) = 0 then
                (some (.inr (56, [some (.ref 66), some (.int x1), some (.long (x2 + 0)), none, some (.int x4), some (.int (x5 + 1)), none], [], q2.2)))
                else
                (zck (zin ((x1 &&& ((zshl 1 x4) ^^^ (-1))) &&& ((zshl 1 x5) ^^^ (-1))) 1024)
                  (some (.inr (56, [some (.ref 66), some (.int x1), some (.long (x2 + (q2.2.2 78 ((x1 &&& ((zshl 1 x4) ^^^ (-1))) &&& ((zshl 1 x5) ^^^ (-1))).toNatClampNeg))), none, some (.int x4), some (.int (x5 + 1)), none], [], q2.2)))))
              else
              (if (1 : Int32) = 0 then
                (some (.inr (56, [some (.ref 66), some (.int x1), some (.long (x2 + 0)), none, some (.int x4), some (.int (x5 + 1)), none], [], q2.2)))
                else
                (zck (zin ((x1 &&& ((zshl 1 x4) ^^^ (-1))) &&& ((zshl 1 x5) ^^^ (-1))) 1024)
                  (some (.inr (56, [some (.ref 66), some (.int x1), some (.long (x2 + (q2.2.2 78 ((x1 &&& ((zshl 1 x4) ^^^ (-1))) &&& ((zshl 1 x5) ^^^ (-1))).toNatClampNeg))), none, some (.int x4), some (.int (x5 + 1)), none], [], q2.2))))))))) := rfl

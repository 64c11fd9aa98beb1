set_option maxRecDepth 100000 in
set_option maxHeartbeats 4000000 in
theorem e_X8_parting_0 (E : ZE) (M : ZM) (x1 : Int32) (x2 : Int32) (x3 : Int32) : zrun E tb_X8_parting cu_X8_parting 2000 [] 0 [some (.ref 66), some (.int x1), some (.int x2), some (.int x3), none, none, none, none] [] M =
  (E.1 169 [.ref 66, .int x1] M).bind fun q1 =>
  if q1.1 = 0 then
    (some (.inl (some (.int (-1000001)), q1.2)))
    else
    ((E.1 169 [.ref 66, .int x2] q1.2).bind fun q2 =>
      if q2.1 = 0 then
        (some (.inl (some (.int (-1000001)), q2.2)))
        else
        (if x1 = x2 then
          (some (.inl (some (.int (-1000001)), q2.2)))
          else
          ((E.1 143 [.int x3, .int 0, .int 1] q2.2).bind fun q3 =>
            if q3.1 = 0 then
              (some (.inl (some (.int (-1000001)), q3.2)))
              else
              ((E.1 172 [.ref 66] q3.2).bind fun q4 =>
                (E.1 144 [.int q4.1, .int x1] q4.2).bind fun q5 =>
                  if q5.1 = 0 then
                    (some (.inl (some (.int (-1000002)), q5.2)))
                    else
                    ((E.1 172 [.ref 66] q5.2).bind fun q6 =>
                      (E.1 144 [.int q6.1, .int x2] q6.2).bind fun q7 =>
                        if q7.1 = 0 then
                          (some (.inl (some (.int (-1000002)), q7.2)))
                          else
                          (some (.inr (68, [some (.ref 66), some (.int x1), some (.int x2), some (.int x3), some (.int 99), some (.int 0), some (.int 1), none], [], q7.2)))))))) := rfl
set_option maxRecDepth 100000 in
set_option maxHeartbeats 4000000 in
theorem e_X8_parting_68 (E : ZE) (M : ZM) (x1 : Int32) (x2 : Int32) (x3 : Int32) (x4 : Int32) (x5 : Int32) (x6 : Int32) : zrun E tb_X8_parting cu_X8_parting 2000 [] 68 [some (.ref 66), some (.int x1), some (.int x2), some (.int x3), some (.int x4), some (.int x5), some (.int x6), none] [] M =
  if (zshl 1 (M.1 72 0)) ≤ x6 then
  (if x3 = 0 then
    (some (.inl (some (.int x4), M)))
    else
    (some (.inl (some (.int x5), M))))
  else
  ((E.1 171 [.ref 66] M).bind fun q1 =>
    if (x6 &&& q1.1) = 0 then
      ((E.1 144 [.int x6, .int x1] q1.2).bind fun q2 =>
        if q2.1 = 0 then
          (some (.inr (68, [some (.ref 66), some (.int x1), some (.int x2), some (.int x3), some (.int x4), some (.int x5), some (.int (x6 + 1)), none], [], q2.2)))
          else
          ((E.1 144 [.int x6, .int x2] q2.2).bind fun q3 =>
            if q3.1 = 0 then
              ((E.1 179 [.ref 66, .int x6] q3.2).bind fun q4 =>
                if x4 ≤ q4.1 then
                  (if x4 ≤ q4.1 then
                    (some (.inr (68, [some (.ref 66), some (.int x1), some (.int x2), some (.int x3), some (.int x4), some (.int x5), some (.int (x6 + 1)), none], [], q4.2)))
                    else
                    (some (.inr (68, [some (.ref 66), some (.int x1), some (.int x2), some (.int x3), some (.int q4.1), some (.int x5), some (.int (x6 + 1)), none], [], q4.2))))
                  else
                  (if x4 ≤ q4.1 then
                    (some (.inr (68, [some (.ref 66), some (.int x1), some (.int x2), some (.int x3), some (.int x4), some (.int x6), some (.int (x6 + 1)), none], [], q4.2)))
                    else
                    (some (.inr (68, [some (.ref 66), some (.int x1), some (.int x2), some (.int x3), some (.int q4.1), some (.int x6), some (.int (x6 + 1)), none], [], q4.2)))))
              else
              (some (.inr (68, [some (.ref 66), some (.int x1), some (.int x2), some (.int x3), some (.int x4), some (.int x5), some (.int (x6 + 1)), none], [], q3.2)))))
      else
      (some (.inr (68, [some (.ref 66), some (.int x1), some (.int x2), some (.int x3), some (.int x4), some (.int x5), some (.int (x6 + 1)), none], [], q1.2)))) := rfl
set_option maxRecDepth 100000 in
set_option maxHeartbeats 4000000 in
theorem e_X8_stepsOf_0 (E : ZE) (M : ZM) (x1 : Int32) (x2 : Int32) : zrun E tb_X8_stepsOf cu_X8_stepsOf 2000 [] 0 [some (.ref 66), some (.int x1), some (.int x2), none, none, none, none] [] M =
  some (.inr (7, [some (.ref 66), none, some (.int x2), some (.int (zshl 1 x1)), some (.int 0), none, none], [], M)) := rfl
set_option maxRecDepth 100000 in
set_option maxHeartbeats 4000000 in
theorem e_X8_stepsOf_7 (E : ZE) (M : ZM) (x2 : Int32) (x3 : Int32) (x4 : Int32) : zrun E tb_X8_stepsOf cu_X8_stepsOf 2000 [] 7 [some (.ref 66), none, some (.int x2), some (.int x3), some (.int x4), none, none] [] M =
  if 10 ≤ x4 then
  (some (.inl (some (.int 99), M)))
  else
  ((E.1 144 [.int x3, .int x2] M).bind fun q1 =>
    if q1.1 = 0 then
      (some (.inr (31, [some (.ref 66), none, some (.int x2), some (.int x3), some (.int x4), some (.int x3), some (.int 0)], [], q1.2)))
      else
      (some (.inl (some (.int x4), q1.2)))) := rfl
set_option maxRecDepth 100000 in
set_option maxHeartbeats 4000000 in
theorem e_X8_stepsOf_31 (E : ZE) (M : ZM) (x2 : Int32) (x3 : Int32) (x4 : Int32) (x5 : Int32) (x6 : Int32) : zrun E tb_X8_stepsOf cu_X8_stepsOf 2000 [] 31 [some (.ref 66), none, some (.int x2), some (.int x3), some (.int x4), some (.int x5), some (.int x6)] [] M =
  if (M.1 72 0) ≤ x6 then
  (some (.inr (7, [some (.ref 66), none, some (.int x2), some (.int x5), some (.int (x4 + 1)), none, none], [], M)))
  else
  ((E.1 144 [.int x3, .int x6] M).bind fun q1 =>
    if q1.1 = 0 then
      (some (.inr (31, [some (.ref 66), none, some (.int x2), some (.int x3), some (.int x4), some (.int (x5 ||| 0)), some (.int (x6 + 1))], [], q1.2)))
      else
      (zck (zin x6 10)
        ((E.1 172 [.ref 66] q1.2).bind fun q2 =>
          some (.inr (31, [some (.ref 66), none, some (.int x2), some (.int x3), some (.int x4), some (.int (x5 ||| ((q1.2.1 74 x6.toNatClampNeg) &&& q2.1))), some (.int (x6 + 1))], [], q2.2))))) := rfl
set_option maxRecDepth 100000 in
set_option maxHeartbeats 4000000 in
theorem e_X8_way_0 (E : ZE) (M : ZM) (x1 : Int32) (x2 : Int32) (x3 : Int32) : zrun E tb_X8_way cu_X8_way 2000 [] 0 [some (.ref 66), some (.int x1), some (.int x2), some (.int x3), none, none] [] M =
  (E.1 169 [.ref 66, .int x1] M).bind fun q1 =>
  if q1.1 = 0 then
    (some (.inl (some (.int (-1000001)), q1.2)))
    else
    ((E.1 169 [.ref 66, .int x2] q1.2).bind fun q2 =>
      if q2.1 = 0 then
        (some (.inl (some (.int (-1000001)), q2.2)))
        else
        (if x1 = x2 then
          (some (.inl (some (.int (-1000001)), q2.2)))
          else
          ((E.1 143 [.int x3, .int 0, .int 1] q2.2).bind fun q3 =>
            if q3.1 = 0 then
              (some (.inl (some (.int (-1000001)), q3.2)))
              else
              ((E.1 172 [.ref 66] q3.2).bind fun q4 =>
                (E.1 144 [.int q4.1, .int x1] q4.2).bind fun q5 =>
                  if q5.1 = 0 then
                    (some (.inl (some (.int (-1000002)), q5.2)))
                    else
                    ((E.1 172 [.ref 66] q5.2).bind fun q6 =>
                      (E.1 144 [.int q6.1, .int x2] q6.2).bind fun q7 =>
                        if q7.1 = 0 then
                          (some (.inl (some (.int (-1000002)), q7.2)))
                          else
                          ((E.1 209 [.ref 66, .int x1, .int x2] q7.2).bind fun q8 =>
                            if q8.1 = 99 then
                              (if q8.1 = 99 then
                                (some (.inl (some (.int (-1000000)), q8.2)))
                                else
                                (some (.inl (some (.int q8.1), q8.2))))
                              else
                              (if x3 = 0 then
                                (if q8.1 = 99 then
                                  (some (.inl (some (.int (-1000000)), q8.2)))
                                  else
                                  (some (.inl (some (.int q8.1), q8.2))))
                                else
                                (some (.inr (95, [some (.ref 66), some (.int x1), some (.int x2), none, some (.int q8.1), some (.int 0)], [], q8.2)))))))))) := rfl
set_option maxRecDepth 100000 in
set_option maxHeartbeats 4000000 in
theorem e_X8_way_95 (E : ZE) (M : ZM) (x1 : Int32) (x2 : Int32) (x4 : Int32) (x5 : Int32) : zrun E tb_X8_way cu_X8_way 2000 [] 95 [some (.ref 66), some (.int x1), some (.int x2), none, some (.int x4), some (.int x5)] [] M =
  zck (zin x1 10)
  ((E.1 172 [.ref 66] M).bind fun q1 =>
    (E.1 144 [.int ((M.1 74 x1.toNatClampNeg) &&& q1.1), .int x5] q1.2).bind fun q2 =>
      if q2.1 = 0 then
        (some (.inr (95, [some (.ref 66), some (.int x1), some (.int x2), none, some (.int x4), some (.int (x5 + 1))], [], q2.2)))
        else
        ((E.1 209 [.ref 66, .int x5, .int x2] q2.2).bind fun q3 =>
          if q3.1 = (x4 - 1) then
            (some (.inl (some (.int x5), q3.2)))
            else
            (some (.inr (95, [some (.ref 66), some (.int x1), some (.int x2), none, some (.int x4), some (.int (x5 + 1))], [], q3.2))))) := rfl
set_option maxRecDepth 100000 in
set_option maxHeartbeats 4000000 in
theorem e_X8_lone_0 (E : ZE) (M : ZM) : zrun E tb_X8_lone cu_X8_lone 2000 [] 0 [some (.ref 66), none, none, none] [] M =
  if (M.1 72 0) = 0 then
  (some (.inl (some (.int (-1000002)), M)))
  else
  ((E.1 172 [.ref 66] M).bind fun q1 =>
    (E.1 191 [.ref 66, .int q1.1] q1.2).bind fun q2 =>
      some (.inr (25, [some (.ref 66), some (.int q2.1), some (.int 0), some (.int 0)], [], q2.2))) := rfl
set_option maxRecDepth 100000 in
set_option maxHeartbeats 4000000 in
theorem e_X8_lone_25 (E : ZE) (M : ZM) (x1 : Int32) (x2 : Int32) (x3 : Int32) : zrun E tb_X8_lone cu_X8_lone 2000 [] 25 [some (.ref 66), some (.int x1), some (.int x2), some (.int x3)] [] M =
  if (M.1 72 0) ≤ x3 then
  (some (.inl (some (.int x2), M)))
  else
  ((E.1 172 [.ref 66] M).bind fun q1 =>
    (E.1 144 [.int q1.1, .int x3] q1.2).bind fun q2 =>
      if q2.1 = 0 then
        (some (.inr (25, [some (.ref 66), some (.int x1), some (.int (x2 ||| 0)), some (.int (x3 + 1))], [], q2.2)))
        else
        ((E.1 172 [.ref 66] q2.2).bind fun q3 =>
          (E.1 191 [.ref 66, .int (q3.1 &&& ((zshl 1 x3) ^^^ (-1)))] q3.2).bind fun q4 =>
            if q4.1 ≤ x1 then
              (some (.inr (25, [some (.ref 66), some (.int x1), some (.int (x2 ||| 0)), some (.int (x3 + 1))], [], q4.2)))
              else
              (some (.inr (25, [some (.ref 66), some (.int x1), some (.int (x2 ||| (zshl 1 x3))), some (.int (x3 + 1))], [], q4.2))))) := rfl
set_option maxRecDepth 100000 in
set_option maxHeartbeats 4000000 in
theorem e_X8_findingOf_0 (E : ZE) (M : ZM) (x1 : Int32) (x2 : Int32) (x3 : Int32) (x4 : Int32) (x5 : Int32) : zrun E tb_X8_findingOf cu_X8_findingOf 2000 [] 0 [some (.ref 66), some (.int x1), some (.int x2), some (.int x3), some (.int x4), some (.int x5), none, none, none] [] M =
  zck (zin x1 8)
  (if 0 ≤ (M.1 68 x1.toNatClampNeg) then
    ((E.1 150 [.ref 66, .int x1, .int x2, .int x5] M).bind fun q1 =>
      if q1.1 = 0 then
        (some (.inl (some (.int 2), q1.2)))
        else
        (some (.inr (30, [some (.ref 66), some (.int x1), some (.int x2), some (.int x3), some (.int x4), some (.int x5), some (.int 0), some (.int 0), none], [], q1.2))))
    else
    (some (.inl (some (.int 1), M)))) := rfl
set_option maxRecDepth 100000 in
set_option maxHeartbeats 4000000 in
theorem e_X8_findingOf_30 (E : ZE) (M : ZM) (x1 : Int32) (x2 : Int32) (x3 : Int32) (x4 : Int32) (x5 : Int32) (x6 : Int32) (x7 : Int32) : zrun E tb_X8_findingOf cu_X8_findingOf 2000 [] 30 [some (.ref 66), some (.int x1), some (.int x2), some (.int x3), some (.int x4), some (.int x5), some (.int x6), some (.int x7), none] [] M =
  if x5 ≤ x7 then
  (zck (zin x3 8)
    (if 0 ≤ (M.1 68 x3.toNatClampNeg) then
      ((E.1 150 [.ref 66, .int x3, .int x4, .int x5] M).bind fun q1 =>
        if q1.1 = 0 then
          (some (.inl (some (.int 2), q1.2)))
          else
          (some (.inl (some (.int 0), q1.2))))
      else
      (some (.inl (some (.int 1), M)))))
  else
  (zck (zin (((40 * x1) + x2) + x7) 320)
    ((E.1 169 [.ref 66, .int (M.1 69 (((40 * x1) + x2) + x7).toNatClampNeg)] M).bind fun q2 =>
      if q2.1 = 0 then
        (some (.inl (some (.int 3), q2.2)))
        else
        ((E.1 144 [.int x6, .int (M.1 69 (((40 * x1) + x2) + x7).toNatClampNeg)] q2.2).bind fun q3 =>
          if q3.1 = 0 then
            (some (.inr (30, [some (.ref 66), some (.int x1), some (.int x2), some (.int x3), some (.int x4), some (.int x5), some (.int (x6 ||| (zshl 1 (M.1 69 (((40 * x1) + x2) + x7).toNatClampNeg)))), some (.int (x7 + 1)), none], [], q3.2)))
            else
            (some (.inl (some (.int 3), q3.2)))))) := rfl
set_option maxRecDepth 100000 in
set_option maxHeartbeats 4000000 in
theorem e_X8_isSo_0 (E : ZE) (M : ZM) (x1 : Int32) (x2 : Int32) (x3 : Int32) (x4 : Int32) (x5 : Int32) : zrun E tb_X8_isSo cu_X8_isSo 2000 [] 0 [some (.ref 66), some (.int x1), some (.int x2), some (.int x3), some (.int x4), some (.int x5), none, none, none] [] M =
  some (.inr (9, [some (.ref 66), some (.int x1), some (.int x2), some (.int x3), some (.int x4), some (.int x5), some (.int 0), some (.int 1), some (.int 0)], [], M)) := rfl
set_option maxRecDepth 100000 in
set_option maxHeartbeats 4000000 in
theorem e_X8_isSo_9 (E : ZE) (M : ZM) (x1 : Int32) (x2 : Int32) (x3 : Int32) (x4 : Int32) (x5 : Int32) (x6 : Int32) (x7 : Int32) (x8 : Int32) : zrun E tb_X8_isSo cu_X8_isSo 2000 [] 9 [some (.ref 66), some (.int x1), some (.int x2), some (.int x3), some (.int x4), some (.int x5), some (.int x6), some (.int x7), some (.int x8)] [] M =
  if x5 ≤ x8 then
  (zck (zb01 x7)
    (some (.inl (some (.int x7), M))))
  else
  (zck (zin (((40 * x1) + x2) + x8) 320)
    (if x7 = 0 then
      (some (.inr (9, [some (.ref 66), some (.int x1), some (.int x2), some (.int x3), some (.int x4), some (.int x5), some (.int (x6 ||| (zshl 1 (M.1 69 (((40 * x1) + x2) + x8).toNatClampNeg)))), some (.int 0), some (.int (x8 + 1))], [], M)))
      else
      ((E.1 178 [.ref 66, .int (x6 ||| (zshl 1 (M.1 69 (((40 * x1) + x2) + x8).toNatClampNeg)))] M).bind fun q1 =>
        zck (zin (((40 * x3) + x4) + x8) 320)
          (if q1.1 = (q1.2.1 69 (((40 * x3) + x4) + x8).toNatClampNeg) then
            (some (.inr (9, [some (.ref 66), some (.int x1), some (.int x2), some (.int x3), some (.int x4), some (.int x5), some (.int (x6 ||| (zshl 1 (M.1 69 (((40 * x1) + x2) + x8).toNatClampNeg)))), some (.int 1), some (.int (x8 + 1))], [], q1.2)))
            else
            (some (.inr (9, [some (.ref 66), some (.int x1), some (.int x2), some (.int x3), some (.int x4), some (.int x5), some (.int (x6 ||| (zshl 1 (M.1 69 (((40 * x1) + x2) + x8).toNatClampNeg)))), some (.int 0), some (.int (x8 + 1))], [], q1.2))))))) := rfl
set_option maxRecDepth 100000 in
set_option maxHeartbeats 4000000 in
theorem e_X8_who_0 (E : ZE) (M : ZM) (x1 : Int32) (x2 : Int32) (x3 : Int32) (x4 : Int32) (x5 : Int32) (x6 : Int32) (x7 : Int32) : zrun E tb_X8_who cu_X8_who 2000 [] 0 [some (.ref 66), some (.int x1), some (.int x2), some (.int x3), some (.int x4), some (.int x5), some (.int x6), some (.int x7), none, none, none, none, none] [] M =
  (E.1 169 [.ref 66, .int x1] M).bind fun q1 =>
  if q1.1 = 0 then
    (some (.inl (some (.int (-1000001)), q1.2)))
    else
    ((E.1 143 [.int x2, .int 0, .int 1] q1.2).bind fun q2 =>
      if q2.1 = 0 then
        (some (.inl (some (.int (-1000001)), q2.2)))
        else
        ((E.1 146 [.int x3] q2.2).bind fun q3 =>
          if q3.1 = 0 then
            (some (.inl (some (.int (-1000001)), q3.2)))
            else
            ((E.1 146 [.int x5] q3.2).bind fun q4 =>
              if q4.1 = 0 then
                (some (.inl (some (.int (-1000001)), q4.2)))
                else
                ((E.1 143 [.int x7, .int 1, .int 10] q4.2).bind fun q5 =>
                  if q5.1 = 0 then
                    (some (.inl (some (.int (-1000001)), q5.2)))
                    else
                    ((E.1 212 [.ref 66, .int x3, .int x4, .int x5, .int x6, .int x7] q5.2).bind fun q6 =>
                      if q6.1 ≤ 0 then
                        (if x2 = 0 then
                            (zck (zin (3 + x1) 41)
                              (if x2 = 0 then
                                (some (.inr (115, [some (.ref 66), none, some (.int x2), some (.int x3), some (.int x4), some (.int x5), some (.int x6), some (.int x7), none, some (.int (3 + x1)), some (.int (q6.2.1 72 (3 + x1).toNatClampNeg)), some (.int 0), some (.int 1)], [], zw q6.2 66 4 0)))
                                else
                                (some (.inr (115, [some (.ref 66), none, some (.int x2), some (.int x3), some (.int x4), some (.int x5), some (.int x6), some (.int x7), none, some (.int (3 + x1)), some (.int (q6.2.1 72 (3 + x1).toNatClampNeg)), some (.int 0), some (.int 0)], [], zw q6.2 66 4 0)))))
                            else
                            (zck (zin (31 + x1) 41)
                              (if x2 = 0 then
                                (some (.inr (115, [some (.ref 66), none, some (.int x2), some (.int x3), some (.int x4), some (.int x5), some (.int x6), some (.int x7), none, some (.int (31 + x1)), some (.int (q6.2.1 72 (31 + x1).toNatClampNeg)), some (.int 0), some (.int 1)], [], zw q6.2 66 4 0)))
                                else
                                (some (.inr (115, [some (.ref 66), none, some (.int x2), some (.int x3), some (.int x4), some (.int x5), some (.int x6), some (.int x7), none, some (.int (31 + x1)), some (.int (q6.2.1 72 (31 + x1).toNatClampNeg)), some (.int 0), some (.int 0)], [], zw q6.2 66 4 0))))))
                        else
                        ((E.1 147 [.ref 66, .int q6.1] q6.2).bind fun q7 =>
                          some (.inl (some (.int q7.1), q7.2)))))))) := rfl
set_option maxRecDepth 100000 in
set_option maxHeartbeats 4000000 in
theorem e_X8_who_115 (E : ZE) (M : ZM) (x2 : Int32) (x3 : Int32) (x4 : Int32) (x5 : Int32) (x6 : Int32) (x7 : Int32) (x9 : Int32) (x10 : Int32) (x11 : Int32) (x12 : Int32) : zrun E tb_X8_who cu_X8_who 2000 [] 115 [some (.ref 66), none, some (.int x2), some (.int x3), some (.int x4), some (.int x5), some (.int x6), some (.int x7), none, some (.int x9), some (.int x10), some (.int x11), some (.int x12)] [] M =
  if x2 = 0 then
  (if 6 ≤ x12 then
    (zck (zin x9 41)
      (some (.inl (some (.int x11), zw M 72 x9.toNatClampNeg x10))))
    else
    (zck (zin x9 41)
      ((E.1 213 [.ref 66, .int x3, .int x4, .int x5, .int x6, .int x7] (zw M 72 x9.toNatClampNeg x12)).bind fun q2 =>
        if q2.1 = 0 then
          (some (.inr (115, [some (.ref 66), none, some (.int x2), some (.int x3), some (.int x4), some (.int x5), some (.int x6), some (.int x7), none, some (.int x9), some (.int x10), some (.int (x11 ||| 0)), some (.int (x12 + 1))], [], q2.2)))
          else
          (some (.inr (115, [some (.ref 66), none, some (.int x2), some (.int x3), some (.int x4), some (.int x5), some (.int x6), some (.int x7), none, some (.int x9), some (.int x10), some (.int (x11 ||| (zshl 1 x12))), some (.int (x12 + 1))], [], q2.2))))))
  else
  (if 10 ≤ x12 then
    (zck (zin x9 41)
      (some (.inl (some (.int x11), zw M 72 x9.toNatClampNeg x10))))
    else
    (zck (zin x9 41)
      ((E.1 213 [.ref 66, .int x3, .int x4, .int x5, .int x6, .int x7] (zw M 72 x9.toNatClampNeg x12)).bind fun q1 =>
        if q1.1 = 0 then
          (some (.inr (115, [some (.ref 66), none, some (.int x2), some (.int x3), some (.int x4), some (.int x5), some (.int x6), some (.int x7), none, some (.int x9), some (.int x10), some (.int (x11 ||| 0)), some (.int (x12 + 1))], [], q1.2)))
          else
          (some (.inr (115, [some (.ref 66), none, some (.int x2), some (.int x3), some (.int x4), some (.int x5), some (.int x6), some (.int x7), none, some (.int x9), some (.int x10), some (.int (x11 ||| (zshl 1 x12))), some (.int (x12 + 1))], [], q1.2)))))) := rfl
set_option maxRecDepth 100000 in
set_option maxHeartbeats 4000000 in
theorem e_X8_swaps_0 (E : ZE) (M : ZM) (x1 : Int32) (x2 : Int32) : zrun E tb_X8_swaps cu_X8_swaps 2000 [] 0 [some (.ref 66), some (.int x1), some (.int x2), none, none] [] M =
  zck (zin (3 + x1) 41)
  (zck (zin (31 + x1) 41)
    (zck (zin (3 + x2) 41)
      (zck (zin (3 + x1) 41)
        (zck (zin (31 + x2) 41)
          (zck (zin (31 + x1) 41)
            (zck (zin (3 + x2) 41)
              (zck (zin (31 + x2) 41)
                (some (.inl (none, zw (zw (zw (zw M 72 (3 + x1).toNatClampNeg (M.1 72 (3 + x2).toNatClampNeg)) 72 (31 + x1).toNatClampNeg ((zw M 72 (3 + x1).toNatClampNeg (M.1 72 (3 + x2).toNatClampNeg)).1 72 (31 + x2).toNatClampNeg)) 72 (3 + x2).toNatClampNeg (M.1 72 (3 + x1).toNatClampNeg)) 72 (31 + x2).toNatClampNeg (M.1 72 (31 + x1).toNatClampNeg))))))))))) := rfl
set_option maxRecDepth 100000 in
set_option maxHeartbeats 4000000 in
theorem e_X8_fits_0 (E : ZE) (M : ZM) (x1 : Int32) (x2 : Int32) (x3 : Int32) (x4 : Int32) (x5 : Int32) (x6 : Int32) : zrun E tb_X8_fits cu_X8_fits 2000 [] 0 [some (.ref 66), some (.int x1), some (.int x2), some (.int x3), some (.int x4), some (.int x5), some (.int x6), none, none, none, none, none, none, none, none] [] M =
  if (M.1 72 0) = 0 then
  (some (.inl (some (.int (-1000002)), M)))
  else
  ((E.1 143 [.int x1, .int 0, .int 2] M).bind fun q1 =>
    if q1.1 = 0 then
      (some (.inl (some (.int (-1000001)), q1.2)))
      else
      ((E.1 146 [.int x2] q1.2).bind fun q2 =>
        if q2.1 = 0 then
          (some (.inl (some (.int (-1000001)), q2.2)))
          else
          ((E.1 146 [.int x4] q2.2).bind fun q3 =>
            if q3.1 = 0 then
              (some (.inl (some (.int (-1000001)), q3.2)))
              else
              ((E.1 143 [.int x6, .int 1, .int 10] q3.2).bind fun q4 =>
                if q4.1 = 0 then
                  (some (.inl (some (.int (-1000001)), q4.2)))
                  else
                  ((E.1 212 [.ref 66, .int x2, .int x3, .int x4, .int x5, .int x6] q4.2).bind fun q5 =>
                    if q5.1 ≤ 0 then
                      (some (.inr (96, [some (.ref 66), some (.int x1), some (.int x2), some (.int x3), some (.int x4), some (.int x5), some (.int x6), none, some (.int (q5.2.1 72 23)), some (.int 0), some (.int 0), none, none, none, none], [], zw q5.2 66 4 0)))
                      else
                      ((E.1 147 [.ref 66, .int q5.1] q5.2).bind fun q6 =>
                        some (.inl (some (.int q6.1), q6.2)))))))) := rfl
set_option maxRecDepth 100000 in
set_option maxHeartbeats 4000000 in
theorem e_X8_fits_96 (E : ZE) (M : ZM) (x1 : Int32) (x2 : Int32) (x3 : Int32) (x4 : Int32) (x5 : Int32) (x6 : Int32) (x8 : Int32) (x9 : Int32) (x10 : Int32) : zrun E tb_X8_fits cu_X8_fits 2000 [] 96 [some (.ref 66), some (.int x1), some (.int x2), some (.int x3), some (.int x4), some (.int x5), some (.int x6), none, some (.int x8), some (.int x9), some (.int x10), none, none, none, none] [] M =
  if 10 ≤ x10 then
  (some (.inr (165, [some (.ref 66), some (.int x1), some (.int x2), some (.int x3), some (.int x4), some (.int x5), some (.int x6), none, none, some (.int x9), some (.int 0), some (.int (-1000000)), some (.int 0), none, none], [], zw M 72 23 x8)))
  else
  ((E.1 213 [.ref 66, .int x2, .int x3, .int x4, .int x5, .int x6] (zw M 72 23 x10)).bind fun q1 =>
    if q1.1 = 0 then
      (some (.inr (96, [some (.ref 66), some (.int x1), some (.int x2), some (.int x3), some (.int x4), some (.int x5), some (.int x6), none, some (.int x8), some (.int (x9 ||| 0)), some (.int (x10 + 1)), none, none, none, none], [], q1.2)))
      else
      (some (.inr (96, [some (.ref 66), some (.int x1), some (.int x2), some (.int x3), some (.int x4), some (.int x5), some (.int x6), none, some (.int x8), some (.int (x9 ||| (zshl 1 x10))), some (.int (x10 + 1)), none, none, none, none], [], q1.2)))) := rfl
set_option maxRecDepth 100000 in
set_option maxHeartbeats 4000000 in
theorem e_X8_fits_165 (E : ZE) (M : ZM) (x1 : Int32) (x2 : Int32) (x3 : Int32) (x4 : Int32) (x5 : Int32) (x6 : Int32) (x9 : Int32) (x10 : Int32) (x11 : Int32) (x12 : Int32) : zrun E tb_X8_fits cu_X8_fits 2000 [] 165 [some (.ref 66), some (.int x1), some (.int x2), some (.int x3), some (.int x4), some (.int x5), some (.int x6), none, none, some (.int x9), some (.int x10), some (.int x11), some (.int x12), none, none] [] M =
  if (M.1 72 0) ≤ x12 then
  (if x1 = 0 then
    (some (.inl (some (.int x9), M)))
    else
    (if x1 = 1 then
      (some (.inl (some (.int x10), M)))
      else
      (some (.inl (some (.int x11), M)))))
  else
  (some (.inr (182, [some (.ref 66), some (.int x1), some (.int x2), some (.int x3), some (.int x4), some (.int x5), some (.int x6), none, none, some (.int x9), some (.int x10), some (.int x11), some (.int x12), some (.int (x12 + 1)), none], [], M))) := rfl
set_option maxRecDepth 100000 in
set_option maxHeartbeats 4000000 in
theorem e_X8_fits_182 (E : ZE) (M : ZM) (x1 : Int32) (x2 : Int32) (x3 : Int32) (x4 : Int32) (x5 : Int32) (x6 : Int32) (x9 : Int32) (x10 : Int32) (x11 : Int32) (x12 : Int32) (x13 : Int32) : zrun E tb_X8_fits cu_X8_fits 2000 [] 182 [some (.ref 66), some (.int x1), some (.int x2), some (.int x3), some (.int x4), some (.int x5), some (.int x6), none, none, some (.int x9), some (.int x10), some (.int x11), some (.int x12), some (.int x13), none] [] M =
  if (M.1 72 0) ≤ x13 then
  (some (.inr (165, [some (.ref 66), some (.int x1), some (.int x2), some (.int x3), some (.int x4), some (.int x5), some (.int x6), none, none, some (.int x9), some (.int x10), some (.int x11), some (.int (x12 + 1)), none, none], [], M)))
  else
  ((E.2.2 215 [.ref 66, .int x12, .int x13] M).bind fun q1 =>
    (E.1 213 [.ref 66, .int x2, .int x3, .int x4, .int x5, .int x6] q1).bind fun q2 =>
      (E.2.2 215 [.ref 66, .int x12, .int x13] q2.2).bind fun q3 =>
        if q2.1 = 0 then
          (if q2.1 = 0 then
            (some (.inr (182, [some (.ref 66), some (.int x1), some (.int x2), some (.int x3), some (.int x4), some (.int x5), some (.int x6), none, none, some (.int x9), some (.int (x10 + 0)), some (.int x11), some (.int x12), some (.int (x13 + 1)), none], [], q3)))
            else
            (some (.inr (182, [some (.ref 66), some (.int x1), some (.int x2), some (.int x3), some (.int x4), some (.int x5), some (.int x6), none, none, some (.int x9), some (.int (x10 + 1)), some (.int x11), some (.int x12), some (.int (x13 + 1)), none], [], q3))))
          else
          (if x10 = 0 then
            (if q2.1 = 0 then
              (some (.inr (182, [some (.ref 66), some (.int x1), some (.int x2), some (.int x3), some (.int x4), some (.int x5), some (.int x6), none, none, some (.int x9), some (.int (x10 + 0)), some (.int ((10 * x12) + x13)), some (.int x12), some (.int (x13 + 1)), none], [], q3)))
              else
              (some (.inr (182, [some (.ref 66), some (.int x1), some (.int x2), some (.int x3), some (.int x4), some (.int x5), some (.int x6), none, none, some (.int x9), some (.int (x10 + 1)), some (.int ((10 * x12) + x13)), some (.int x12), some (.int (x13 + 1)), none], [], q3))))
            else
            (if q2.1 = 0 then
              (some (.inr (182, [some (.ref 66), some (.int x1), some (.int x2), some (.int x3), some (.int x4), some (.int x5), some (.int x6), none, none, some (.int x9), some (.int (x10 + 0)), some (.int x11), some (.int x12), some (.int (x13 + 1)), none], [], q3)))
              else
              (some (.inr (182, [some (.ref 66), some (.int x1), some (.int x2), some (.int x3), some (.int x4), some (.int x5), some (.int x6), none, none, some (.int x9), some (.int (x10 + 1)), some (.int x11), some (.int x12), some (.int (x13 + 1)), none], [], q3)))))) := rfl
set_option maxRecDepth 100000 in
set_option maxHeartbeats 4000000 in
theorem e_X8_wrong_0 (E : ZE) (M : ZM) (x1 : Int32) (x2 : Int32) (x3 : Int32) (x4 : Int32) : zrun E tb_X8_wrong cu_X8_wrong 2000 [] 0 [some (.ref 66), some (.int x1), some (.int x2), some (.int x3), some (.int x4), none, none, none, none, none, none, none, none, none, none] [] M =
  (E.1 177 [.ref 66, .int x1] M).bind fun q1 =>
  if q1.1 = 0 then
    (some (.inl (some (.long (-1000001)), q1.2)))
    else
    ((E.1 143 [.int x2, .int 0, .int 10] q1.2).bind fun q2 =>
      if q2.1 = 0 then
        (some (.inl (some (.long (-1000001)), q2.2)))
        else
        ((E.1 143 [.int x3, .int 0, .int 10] q2.2).bind fun q3 =>
          if q3.1 = 0 then
            (some (.inl (some (.long (-1000001)), q3.2)))
            else
            ((E.1 143 [.int x4, .int 0, .int 1] q3.2).bind fun q4 =>
              if q4.1 = 0 then
                (some (.inl (some (.long (-1000001)), q4.2)))
                else
                (some (.inr (45, [some (.ref 66), some (.int x1), some (.int x2), some (.int x3), some (.int x4), some (.int 0), none, none, none, none, none, none, none, none, none], [], q4.2)))))) := rfl
set_option maxRecDepth 100000 in
set_option maxHeartbeats 4000000 in
theorem e_X8_wrong_45 (E : ZE) (M : ZM) (x1 : Int32) (x2 : Int32) (x3 : Int32) (x4 : Int32) (x5 : Int32) : zrun E tb_X8_wrong cu_X8_wrong 2000 [] 45 [some (.ref 66), some (.int x1), some (.int x2), some (.int x3), some (.int x4), some (.int x5), none, none, none, none, none, none, none, none, none] [] M =
  if 10 < x5 then
  (some (.inr (81, [some (.ref 66), some (.int x1), some (.int x2), some (.int x3), some (.int x4), some (.long 1), none, some (.int 0), none, none, none, none, none, none, none], [], M)))
  else
  (if x5 = 0 then
    (zck (zin x5 11)
      (some (.inr (45, [some (.ref 66), some (.int x1), some (.int x2), some (.int x3), some (.int x4), some (.int (x5 + 1)), none, none, none, none, none, none, none, none, none], [], zwl M 81 x5.toNatClampNeg 1))))
    else
    (zck (zin x5 11)
      (some (.inr (45, [some (.ref 66), some (.int x1), some (.int x2), some (.int x3), some (.int x4), some (.int (x5 + 1)), none, none, none, none, none, none, none, none, none], [], zwl M 81 x5.toNatClampNeg 0))))) := rfl
set_option maxRecDepth 100000 in
set_option maxHeartbeats 4000000 in
theorem e_X8_wrong_81 (E : ZE) (M : ZM) (x1 : Int32) (x2 : Int32) (x3 : Int32) (x4 : Int32) (x5 : Int64) (x7 : Int32) : zrun E tb_X8_wrong cu_X8_wrong 2000 [] 81 [some (.ref 66), some (.int x1), some (.int x2), some (.int x3), some (.int x4), some (.long x5), none, some (.int x7), none, none, none, none, none, none, none] [] M =
  if (M.1 72 0) ≤ x7 then
  (some (.inr (242, [some (.ref 66), none, some (.int x2), none, some (.int x4), some (.long x5), none, some (.long 0), none, some (.int 0), none, none, none, none, none], [], M)))
  else
  ((E.1 172 [.ref 66] M).bind fun q1 =>
    (E.1 144 [.int (q1.1 &&& (x1 ^^^ (-1))), .int x7] q1.2).bind fun q2 =>
      if q2.1 = 0 then
        (some (.inr (135, [some (.ref 66), some (.int x1), some (.int x2), some (.int x3), some (.int x4), some (.long x5), none, some (.int x7), some (.int 0), some (.long 1), none, some (.long 1), none, some (.int 0), none], [], q2.2)))
        else
        (zck (zin x7 10)
          ((E.1 145 [.int ((q2.2.1 74 x7.toNatClampNeg) &&& x1)] q2.2).bind fun q3 =>
            some (.inr (135, [some (.ref 66), some (.int x1), some (.int x2), some (.int x3), some (.int x4), some (.long x5), none, some (.int x7), some (.int q3.1), some (.long 1), none, some (.long 1), none, some (.int 0), none], [], q3.2))))) := rfl
set_option maxRecDepth 100000 in
set_option maxHeartbeats 4000000 in
theorem e_X8_wrong_135 (E : ZE) (M : ZM) (x1 : Int32) (x2 : Int32) (x3 : Int32) (x4 : Int32) (x5 : Int64) (x7 : Int32) (x8 : Int32) (x9 : Int64) (x11 : Int64) (x13 : Int32) : zrun E tb_X8_wrong cu_X8_wrong 2000 [] 135 [some (.ref 66), some (.int x1), some (.int x2), some (.int x3), some (.int x4), some (.long x5), none, some (.int x7), some (.int x8), some (.long x9), none, some (.long x11), none, some (.int x13), none] [] M =
  if x8 ≤ x13 then
  (some (.inr (177, [some (.ref 66), some (.int x1), some (.int x2), some (.int x3), some (.int x4), some (.long (x5 * x9)), none, some (.int x7), none, some (.long x9), none, some (.long x11), none, some (.int 10), none], [], M)))
  else
  (some (.inr (135, [some (.ref 66), some (.int x1), some (.int x2), some (.int x3), some (.int x4), some (.long x5), none, some (.int x7), some (.int x8), some (.long (x9 * 10)), none, some (.long (x11 * (Int32.toInt64 (10 - x3)))), none, some (.int (x13 + 1)), none], [], M))) := rfl
set_option maxRecDepth 100000 in
set_option maxHeartbeats 4000000 in
theorem e_X8_wrong_177 (E : ZE) (M : ZM) (x1 : Int32) (x2 : Int32) (x3 : Int32) (x4 : Int32) (x5 : Int64) (x7 : Int32) (x9 : Int64) (x11 : Int64) (x13 : Int32) : zrun E tb_X8_wrong cu_X8_wrong 2000 [] 177 [some (.ref 66), some (.int x1), some (.int x2), some (.int x3), some (.int x4), some (.long x5), none, some (.int x7), none, some (.long x9), none, some (.long x11), none, some (.int x13), none] [] M =
  if x13 < 0 then
  (some (.inr (81, [some (.ref 66), some (.int x1), some (.int x2), some (.int x3), some (.int x4), some (.long x5), none, some (.int (x7 + 1)), none, none, none, none, none, none, none], [], M)))
  else
  (zck (zin x13 11)
    (if x13 ≤ 0 then
      (zck (zin x13 11)
        (some (.inr (177, [some (.ref 66), some (.int x1), some (.int x2), some (.int x3), some (.int x4), some (.long x5), none, some (.int x7), none, some (.long x9), none, some (.long x11), none, some (.int (x13 + (-1))), none], [], zwl M 81 x13.toNatClampNeg (((M.2 81 x13.toNatClampNeg) * x11) + 0)))))
      else
      (zck (zin (x13 - 1) 11)
        (zck (zin x13 11)
          (some (.inr (177, [some (.ref 66), some (.int x1), some (.int x2), some (.int x3), some (.int x4), some (.long x5), none, some (.int x7), none, some (.long x9), none, some (.long x11), none, some (.int (x13 + (-1))), none], [], zwl M 81 x13.toNatClampNeg (((M.2 81 x13.toNatClampNeg) * x11) + ((M.2 81 (x13 - 1).toNatClampNeg) * (x9 - x11)))))))))) := rfl
set_option maxRecDepth 100000 in
set_option maxHeartbeats 4000000 in
theorem e_X8_wrong_242 (E : ZE) (M : ZM) (x2 : Int32) (x4 : Int32) (x5 : Int64) (x7 : Int64) (x9 : Int32) : zrun E tb_X8_wrong cu_X8_wrong 2000 [] 242 [some (.ref 66), none, some (.int x2), none, some (.int x4), some (.long x5), none, some (.long x7), none, some (.int x9), none, none, none, none, none] [] M =
  if x2 < x9 then
  (some (.inr (274, [none, none, none, none, some (.int x4), some (.long x5), none, some (.long x7), none, some (.long x7), none, some (.long x5), none, none, none], [], M)))
  else
  (zck (zin x9 11)
    (some (.inr (242, [some (.ref 66), none, some (.int x2), none, some (.int x4), some (.long x5), none, some (.long (x7 + (M.2 81 x9.toNatClampNeg))), none, some (.int (x9 + 1)), none, none, none, none, none], [], M)))) := rfl
set_option maxRecDepth 100000 in
set_option maxHeartbeats 4000000 in
theorem e_X8_wrong_274 (E : ZE) (M : ZM) (x4 : Int32) (x5 : Int64) (x7 : Int64) (x9 : Int64) (x11 : Int64) : zrun E tb_X8_wrong cu_X8_wrong 2000 [] 274 [none, none, none, none, some (.int x4), some (.long x5), none, some (.long x7), none, some (.long x9), none, some (.long x11), none, none, none] [] M =
  if (lg_cmp x11 0) ≤ 0 then
  (if x4 = 0 then
    (zck (!(decide (x9 = 0)))
      (some (.inl (some (.long (x7 / x9)), M))))
    else
    (zck (!(decide (x9 = 0)))
      (some (.inl (some (.long (x5 / x9)), M)))))
  else
  (zck (!(decide (x11 = 0)))
    (some (.inr (274, [none, none, none, none, some (.int x4), some (.long x5), none, some (.long x7), none, some (.long x11), none, some (.long (zlrem x9 x11)), none, none, none], [], M)))) := rfl
set_option maxRecDepth 100000 in
set_option maxHeartbeats 4000000 in
theorem e_X8_day_0 (E : ZE) (M : ZM) (x1 : Int64) : zrun E tb_X8_day cu_X8_day 2000 [] 0 [some (.ref 66), some (.long x1), none, none, none, none] [] M =
  zck (!(decide (Int32.toInt64 (M.1 72 0) = 0)))
  (if (M.1 72 2) = 0 then
    ((E.1 172 [.ref 66] M).bind fun q1 =>
      (E.1 144 [.int q1.1, .int (Int64.toInt32 (zlrem x1 (Int32.toInt64 (M.1 72 0))))] q1.2).bind fun q2 =>
        if q2.1 = 0 then
          (some (.inl (none, zw q2.2 72 25 ((M.1 72 25) ||| 0))))
          else
          (some (.inl (none, zw q2.2 72 25 ((M.1 72 25) ||| (zshl 1 (Int64.toInt32 (zlrem x1 (Int32.toInt64 (M.1 72 0))))))))))
    else
    (if (lg_cmp (zlrem x1 3) 0) = 0 then
        ((E.1 172 [.ref 66] M).bind fun q5 =>
          (E.1 144 [.int q5.1, .int (Int64.toInt32 (zlrem x1 (Int32.toInt64 (M.1 72 0))))] q5.2).bind fun q6 =>
            if q6.1 = 0 then
              (some (.inl (none, zw q6.2 72 25 ((M.1 72 25) ||| 0))))
              else
              (some (.inl (none, zw q6.2 72 25 ((M.1 72 25) ||| (zshl 1 (Int64.toInt32 (zlrem x1 (Int32.toInt64 (M.1 72 0))))))))))
        else
        (zck (!(decide (Int32.toInt64 (M.1 72 2) = 0)))
          (zck (zin (26 + (Int64.toInt32 (zlrem x1 (Int32.toInt64 (M.1 72 2))))) 41)
            (if (M.1 72 (26 + (Int64.toInt32 (zlrem x1 (Int32.toInt64 (M.1 72 2))))).toNatClampNeg) ≤ 0 then
              ((E.1 200 [.ref 66, .int (Int64.toInt32 (zlrem x1 (Int32.toInt64 (M.1 72 2))))] M).bind fun q3 =>
                if q3.1 ≤ 0 then
                  (some (.inl (none, q3.2)))
                  else
                  ((E.2.2 180 [.ref 66, .int (Int64.toInt32 (zlrem x1 (Int32.toInt64 (M.1 72 2)))), .int q3.1] q3.2).bind fun q4 =>
                    some (.inl (none, q4))))
              else
              (zck (zin (26 + (Int64.toInt32 (zlrem x1 (Int32.toInt64 (M.1 72 2))))) 41)
                (some (.inl (none, zw M 72 (26 + (Int64.toInt32 (zlrem x1 (Int32.toInt64 (M.1 72 2))))).toNatClampNeg 0))))))))) := rfl
set_option maxRecDepth 100000 in
set_option maxHeartbeats 4000000 in
theorem e_X8_drawn_0 (E : ZE) (M : ZM) (x1 : Int32) (x2 : Int32) (x3 : Int32) : zrun E tb_X8_drawn cu_X8_drawn 2000 [] 0 [some (.ref 66), some (.int x1), some (.int x2), some (.int x3), none, none, none, none] [] M =
  if (M.1 72 0) = 0 then
  (some (.inl (some (.int (-1000002)), M)))
  else
  ((E.1 143 [.int x1, .int 0, .int 60] M).bind fun q1 =>
    if q1.1 = 0 then
      (some (.inl (some (.int (-1000001)), q1.2)))
      else
      ((E.1 143 [.int x2, .int 1, .int 999999] q1.2).bind fun q2 =>
        if q2.1 = 0 then
          (some (.inl (some (.int (-1000001)), q2.2)))
          else
          ((E.1 143 [.int x3, .int 0, .int 1] q2.2).bind fun q3 =>
            if q3.1 = 0 then
              (some (.inl (some (.int (-1000001)), q3.2)))
              else
              ((E.2.2 194 [.ref 66] q3.2).bind fun q4 =>
                some (.inr (51, [some (.ref 66), some (.int x1), some (.int x2), some (.int x3), some (.int 0), none, none, none], [], q4)))))) := rfl
set_option maxRecDepth 100000 in
set_option maxHeartbeats 4000000 in
theorem e_X8_drawn_51 (E : ZE) (M : ZM) (x1 : Int32) (x2 : Int32) (x3 : Int32) (x4 : Int32) : zrun E tb_X8_drawn cu_X8_drawn 2000 [] 51 [some (.ref 66), some (.int x1), some (.int x2), some (.int x3), some (.int x4), none, none, none] [] M =
  if 18 ≤ x4 then
  (some (.inr (88, [some (.ref 66), some (.int x1), none, some (.int x3), some (.long (Int32.toInt64 x2)), none, some (.int 0), none], [], M)))
  else
  (zck (zin (23 + x4) 41)
    (zck (zin x4 18)
      (some (.inr (51, [some (.ref 66), some (.int x1), some (.int x2), some (.int x3), some (.int (x4 + 1)), none, none, none], [], zw M 82 x4.toNatClampNeg (M.1 72 (23 + x4).toNatClampNeg)))))) := rfl
set_option maxRecDepth 100000 in
set_option maxHeartbeats 4000000 in
theorem e_X8_drawn_88 (E : ZE) (M : ZM) (x1 : Int32) (x3 : Int32) (x4 : Int64) (x6 : Int32) : zrun E tb_X8_drawn cu_X8_drawn 2000 [] 88 [some (.ref 66), some (.int x1), none, some (.int x3), some (.long x4), none, some (.int x6), none] [] M =
  if x1 ≤ x6 then
  (if x3 = 0 then
    ((E.1 173 [.ref 66] M).bind fun q1 =>
      some (.inr (141, [some (.ref 66), none, none, none, none, none, some (.int q1.1), some (.int 0)], [], q1.2)))
    else
    (some (.inr (141, [some (.ref 66), none, none, none, none, none, some (.int (M.1 72 24)), some (.int 0)], [], M))))
  else
  ((E.2.2 218 [.ref 66, .long (zlrem (x4 * 16807) 2147483647)] M).bind fun q2 =>
      some (.inr (88, [some (.ref 66), some (.int x1), none, some (.int x3), some (.long (zlrem (x4 * 16807) 2147483647)), none, some (.int (x6 + 1)), none], [], q2))) := rfl
set_option maxRecDepth 100000 in
set_option maxHeartbeats 4000000 in
theorem e_X8_drawn_141 (E : ZE) (M : ZM) (x6 : Int32) (x7 : Int32) : zrun E tb_X8_drawn cu_X8_drawn 2000 [] 141 [some (.ref 66), none, none, none, none, none, some (.int x6), some (.int x7)] [] M =
  if 18 ≤ x7 then
  (some (.inl (some (.int x6), M)))
  else
  (zck (zin x7 18)
    (zck (zin (23 + x7) 41)
      (some (.inr (141, [some (.ref 66), none, none, none, none, none, some (.int x6), some (.int (x7 + 1))], [], zw M 72 (23 + x7).toNatClampNeg (M.1 82 x7.toNatClampNeg)))))) := rfl
set_option maxRecDepth 100000 in
set_option maxHeartbeats 4000000 in
theorem e_X8_image_0 (E : ZE) (M : ZM) (x1 : Int32) : zrun E tb_X8_image cu_X8_image 2000 [] 0 [some (.ref 66), some (.int x1), none] [] M =
  (E.1 143 [.int x1, .int 0, .int 1] M).bind fun q1 =>
  if q1.1 = 0 then
    (some (.inl (some (.int (-1000001)), q1.2)))
    else
    (if (q1.2.1 72 0) = 0 then
      (some (.inl (some (.int (-1000002)), q1.2)))
      else
      (some (.inr (26, [some (.ref 66), some (.int x1), some (.int 0)], [], q1.2)))) := rfl
set_option maxRecDepth 100000 in
set_option maxHeartbeats 4000000 in
theorem e_X8_image_26 (E : ZE) (M : ZM) (x1 : Int32) (x2 : Int32) : zrun E tb_X8_image cu_X8_image 2000 [] 26 [some (.ref 66), some (.int x1), some (.int x2)] [] M =
  if 41 ≤ x2 then
  (zck (zin x1 2 && true)
    (some (.inl (some (.int 1), zw M 77 x1.toNatClampNeg 1))))
  else
  (zck (zin x2 41)
    (zck (zin ((41 * x1) + x2) 82)
      (some (.inr (26, [some (.ref 66), some (.int x1), some (.int (x2 + 1))], [], zw M 76 ((41 * x1) + x2).toNatClampNeg (M.1 72 x2.toNatClampNeg)))))) := rfl
set_option maxRecDepth 100000 in
set_option maxHeartbeats 4000000 in
theorem e_X8_restore_0 (E : ZE) (M : ZM) (x1 : Int32) : zrun E tb_X8_restore cu_X8_restore 2000 [] 0 [some (.ref 66), some (.int x1), none] [] M =
  (E.1 143 [.int x1, .int 0, .int 1] M).bind fun q1 =>
  if q1.1 = 0 then
    (some (.inl (some (.int (-1000001)), q1.2)))
    else
    (zck (zin x1 2)
      (if (q1.2.1 77 x1.toNatClampNeg) = 0 then
        (some (.inl (some (.int (-1000002)), q1.2)))
        else
        (some (.inr (26, [some (.ref 66), some (.int x1), some (.int 0)], [], q1.2))))) := rfl
set_option maxRecDepth 100000 in
set_option maxHeartbeats 4000000 in
theorem e_X8_restore_26 (E : ZE) (M : ZM) (x1 : Int32) (x2 : Int32) : zrun E tb_X8_restore cu_X8_restore 2000 [] 26 [some (.ref 66), some (.int x1), some (.int x2)] [] M =
  if 41 ≤ x2 then
  ((E.2.2 164 [.ref 66] M).bind fun q1 =>
    some (.inl (some (.int 1), zw q1 66 14 0)))
  else
  (zck (zin ((41 * x1) + x2) 82)
    (zck (zin x2 41)
      (some (.inr (26, [some (.ref 66), some (.int x1), some (.int (x2 + 1))], [], zw M 72 x2.toNatClampNeg (M.1 76 ((41 * x1) + x2).toNatClampNeg)))))) := rfl
set_option maxRecDepth 100000 in
set_option maxHeartbeats 4000000 in
theorem e_X8_kind_0 (E : ZE) (M : ZM) (x1 : Int32) : zrun E tb_X8_kind cu_X8_kind 2000 [] 0 [some (.ref 66), some (.int x1)] [] M =
  (E.1 169 [.ref 66, .int x1] M).bind fun q1 =>
  if q1.1 = 0 then
    (some (.inl (some (.int (-1000001)), q1.2)))
    else
    (zck (zin (3 + x1) 41)
      (some (.inl (some (.int (q1.2.1 72 (3 + x1).toNatClampNeg)), q1.2)))) := rfl
set_option maxRecDepth 100000 in
set_option maxHeartbeats 4000000 in
theorem e_X8_as_0 (E : ZE) (M : ZM) (x1 : Int32) (x2 : Int32) : zrun E tb_X8_as cu_X8_as 2000 [] 0 [some (.ref 66), some (.int x1), some (.int x2), none, none] [] M =
  (E.1 169 [.ref 66, .int x1] M).bind fun q1 =>
  if q1.1 = 0 then
    (some (.inl (some (.int (-1000001)), q1.2)))
    else
    ((E.1 143 [.int x2, .int 0, .int 5] q1.2).bind fun q2 =>
      if q2.1 = 0 then
        (some (.inl (some (.int (-1000001)), q2.2)))
        else
        (zck (zin (3 + x1) 41)
          (if x2 = 0 then
            (if (1 : Int32) = 0 then
              ((E.1 147 [.ref 66, .int 3] q2.2).bind fun q3 =>
                some (.inl (some (.int q3.1), q3.2)))
              else
              (some (.inl (some (.int x1), zw q2.2 66 4 0))))
            else
            (if x2 = (q2.2.1 72 (3 + x1).toNatClampNeg) then
              (if (1 : Int32) = 0 then
                ((E.1 147 [.ref 66, .int 3] q2.2).bind fun q4 =>
                  some (.inl (some (.int q4.1), q4.2)))
                else
                (some (.inl (some (.int x1), zw q2.2 66 4 0))))
              else
              (if x2 = 1 then
                (if (q2.2.1 72 (3 + x1).toNatClampNeg) < 4 then
                  (if (1 : Int32) = 0 then
                    ((E.1 147 [.ref 66, .int 3] q2.2).bind fun q8 =>
                      some (.inl (some (.int q8.1), q8.2)))
                    else
                    (some (.inl (some (.int x1), zw q2.2 66 4 0))))
                  else
                  (if x2 = 4 then
                    (if (q2.2.1 72 (3 + x1).toNatClampNeg) = 5 then
                      (if (1 : Int32) = 0 then
                        ((E.1 147 [.ref 66, .int 3] q2.2).bind fun q11 =>
                          some (.inl (some (.int q11.1), q11.2)))
                        else
                        (some (.inl (some (.int x1), zw q2.2 66 4 0))))
                      else
                      (if (0 : Int32) = 0 then
                        ((E.1 147 [.ref 66, .int 3] q2.2).bind fun q10 =>
                          some (.inl (some (.int q10.1), q10.2)))
                        else
                        (some (.inl (some (.int x1), zw q2.2 66 4 0)))))
                    else
                    (if (0 : Int32) = 0 then
                      ((E.1 147 [.ref 66, .int 3] q2.2).bind fun q9 =>
                        some (.inl (some (.int q9.1), q9.2)))
                      else
                      (some (.inl (some (.int x1), zw q2.2 66 4 0))))))
                else
                (if x2 = 4 then
                  (if (q2.2.1 72 (3 + x1).toNatClampNeg) = 5 then
                    (if (1 : Int32) = 0 then
                      ((E.1 147 [.ref 66, .int 3] q2.2).bind fun q7 =>
                        some (.inl (some (.int q7.1), q7.2)))
                      else
                      (some (.inl (some (.int x1), zw q2.2 66 4 0))))
                    else
                    (if (0 : Int32) = 0 then
                      ((E.1 147 [.ref 66, .int 3] q2.2).bind fun q6 =>
                        some (.inl (some (.int q6.1), q6.2)))
                      else
                      (some (.inl (some (.int x1), zw q2.2 66 4 0)))))
                  else
                  (if (0 : Int32) = 0 then
                    ((E.1 147 [.ref 66, .int 3] q2.2).bind fun q5 =>
                      some (.inl (some (.int q5.1), q5.2)))
                    else
                    (some (.inl (some (.int x1), zw q2.2 66 4 0)))))))))) := rfl
set_option maxRecDepth 100000 in
set_option maxHeartbeats 4000000 in
theorem e_X8_leaves_0 (E : ZE) (M : ZM) (x1 : Int32) : zrun E tb_X8_leaves cu_X8_leaves 2000 [] 0 [some (.ref 66), some (.int x1)] [] M =
  if 16 ≤ (M.1 66 19) then
  (some (.inl (none, M)))
  else
  (zck (zin (M.1 66 19) 16)
    (some (.inl (none, zw (zw M 79 (M.1 66 19).toNatClampNeg x1) 66 19 ((M.1 66 19) + 1))))) := rfl
set_option maxRecDepth 100000 in
set_option maxHeartbeats 4000000 in
theorem e_X8_markLow_0 (E : ZE) (M : ZM) (x1 : Int32) : zrun E tb_X8_markLow cu_X8_markLow 2000 [] 0 [some (.ref 66), some (.int x1), none, none] [] M =
  zck (zin (3 + x1) 41)
  (if (M.1 72 (3 + x1).toNatClampNeg) = 2 then
    ((E.2.2 224 [.ref 66, .int 24] M).bind fun q6 =>
      (E.2.2 224 [.ref 66, .int 21] q6).bind fun q7 =>
        (E.2.2 224 [.ref 66, .int 20] q7).bind fun q8 =>
          if (M.1 72 (3 + x1).toNatClampNeg) = 2 then
            (some (.inl (some (.int ((x1 + (q8.1 72 23)) + (x1 + (q8.1 72 23)))), q8)))
            else
            (if (M.1 72 (3 + x1).toNatClampNeg) = 3 then
              (some (.inl (some (.int ((x1 + (q8.1 72 23)) - 1000)), q8)))
              else
              (some (.inl (some (.int (x1 + (q8.1 72 23))), q8)))))
    else
    (if (M.1 72 (3 + x1).toNatClampNeg) = 3 then
      ((E.2.2 224 [.ref 66, .int 22] M).bind fun q3 =>
        (E.2.2 224 [.ref 66, .int 21] q3).bind fun q4 =>
          (E.2.2 224 [.ref 66, .int 20] q4).bind fun q5 =>
            if (M.1 72 (3 + x1).toNatClampNeg) = 2 then
              (some (.inl (some (.int ((x1 + (q5.1 72 23)) + (x1 + (q5.1 72 23)))), q5)))
              else
              (if (M.1 72 (3 + x1).toNatClampNeg) = 3 then
                (some (.inl (some (.int ((x1 + (q5.1 72 23)) - 1000)), q5)))
                else
                (some (.inl (some (.int (x1 + (q5.1 72 23))), q5)))))
      else
      ((E.2.2 224 [.ref 66, .int 21] M).bind fun q1 =>
        (E.2.2 224 [.ref 66, .int 20] q1).bind fun q2 =>
          if (M.1 72 (3 + x1).toNatClampNeg) = 2 then
            (some (.inl (some (.int ((x1 + (q2.1 72 23)) + (x1 + (q2.1 72 23)))), q2)))
            else
            (if (M.1 72 (3 + x1).toNatClampNeg) = 3 then
              (some (.inl (some (.int ((x1 + (q2.1 72 23)) - 1000)), q2)))
              else
              (some (.inl (some (.int (x1 + (q2.1 72 23))), q2))))))) := rfl
set_option maxRecDepth 100000 in
set_option maxHeartbeats 4000000 in
theorem e_X8_sizeHigh_0 (E : ZE) (M : ZM) (x1 : Int32) : zrun E tb_X8_sizeHigh cu_X8_sizeHigh 2000 [] 0 [some (.ref 66), some (.int x1), none, none] [] M =
  zck (zin (3 + x1) 41)
  (if (M.1 72 (3 + x1).toNatClampNeg) = 5 then
    (if (1 : Int32) = 0 then
      ((E.2.2 224 [.ref 66, .int 13] M).bind fun q6 =>
        (E.2.2 224 [.ref 66, .int 10] q6).bind fun q7 =>
          zck (zin (31 + x1) 41)
            (if (1 : Int32) = 0 then
              (some (.inl (some (.int ((q7.1 72 (31 + x1).toNatClampNeg) - 100)), q7)))
              else
              (some (.inl (some (.int (((q7.1 72 (31 + x1).toNatClampNeg) - 100) + ((q7.1 72 (31 + x1).toNatClampNeg) - 100))), q7)))))
      else
      ((E.2.2 224 [.ref 66, .int 14] M).bind fun q8 =>
        (E.2.2 224 [.ref 66, .int 13] q8).bind fun q9 =>
          (E.2.2 224 [.ref 66, .int 10] q9).bind fun q10 =>
            zck (zin (31 + x1) 41)
              (if (1 : Int32) = 0 then
                (some (.inl (some (.int ((q10.1 72 (31 + x1).toNatClampNeg) - 100)), q10)))
                else
                (some (.inl (some (.int (((q10.1 72 (31 + x1).toNatClampNeg) - 100) + ((q10.1 72 (31 + x1).toNatClampNeg) - 100))), q10))))))
    else
    (if (0 : Int32) = 0 then
      ((E.2.2 224 [.ref 66, .int 13] M).bind fun q1 =>
        (E.2.2 224 [.ref 66, .int 10] q1).bind fun q2 =>
          zck (zin (31 + x1) 41)
            (if (0 : Int32) = 0 then
              (some (.inl (some (.int ((q2.1 72 (31 + x1).toNatClampNeg) - 100)), q2)))
              else
              (some (.inl (some (.int (((q2.1 72 (31 + x1).toNatClampNeg) - 100) + ((q2.1 72 (31 + x1).toNatClampNeg) - 100))), q2)))))
      else
      ((E.2.2 224 [.ref 66, .int 14] M).bind fun q3 =>
        (E.2.2 224 [.ref 66, .int 13] q3).bind fun q4 =>
          (E.2.2 224 [.ref 66, .int 10] q4).bind fun q5 =>
            zck (zin (31 + x1) 41)
              (if (0 : Int32) = 0 then
                (some (.inl (some (.int ((q5.1 72 (31 + x1).toNatClampNeg) - 100)), q5)))
                else
                (some (.inl (some (.int (((q5.1 72 (31 + x1).toNatClampNeg) - 100) + ((q5.1 72 (31 + x1).toNatClampNeg) - 100))), q5))))))) := rfl
set_option maxRecDepth 100000 in
set_option maxHeartbeats 4000000 in
theorem e_X8_ask_0 (E : ZE) (M : ZM) (x1 : Int32) (x2 : Int32) : zrun E tb_X8_ask cu_X8_ask 2000 [] 0 [some (.ref 66), some (.int x1), some (.int x2), none, none] [] M =
  (E.1 169 [.ref 66, .int x1] M).bind fun q1 =>
  if q1.1 = 0 then
    (some (.inl (some (.int (-1000001)), q1.2)))
    else
    ((E.1 143 [.int x2, .int 0, .int 1] q1.2).bind fun q2 =>
      if q2.1 = 0 then
        (some (.inl (some (.int (-1000001)), q2.2)))
        else
        (zck (zin (3 + x1) 41)
            (if (q2.2.1 72 (3 + x1).toNatClampNeg) < 4 then
              (if (q2.2.1 72 (3 + x1).toNatClampNeg) < 4 then
                (if x2 = 1 then
                  ((E.1 225 [.ref 66, .int x1] (zw q2.2 66 19 0)).bind fun q10 =>
                    some (.inl (some (.int q10.1), q10.2)))
                  else
                  (if (q2.2.1 72 (3 + x1).toNatClampNeg) = 2 then
                    ((E.2.2 224 [.ref 66, .int 12] (zw q2.2 66 19 0)).bind fun q6 =>
                      (E.2.2 224 [.ref 66, .int 11] q6).bind fun q7 =>
                        (E.2.2 224 [.ref 66, .int 10] q7).bind fun q8 =>
                          zck (zin (31 + x1) 41)
                            ((E.1 225 [.ref 66, .int x1] q8).bind fun q9 =>
                              if (q2.2.1 72 (3 + x1).toNatClampNeg) = 2 then
                                (some (.inl (some (.int (-((q8.1 72 (31 + x1).toNatClampNeg) + q9.1))), q9.2)))
                                else
                                (some (.inl (some (.int ((q8.1 72 (31 + x1).toNatClampNeg) + q9.1)), q9.2)))))
                    else
                    ((E.2.2 224 [.ref 66, .int 11] (zw q2.2 66 19 0)).bind fun q3 =>
                      (E.2.2 224 [.ref 66, .int 10] q3).bind fun q4 =>
                        zck (zin (31 + x1) 41)
                          ((E.1 225 [.ref 66, .int x1] q4).bind fun q5 =>
                            if (q2.2.1 72 (3 + x1).toNatClampNeg) = 2 then
                              (some (.inl (some (.int (-((q4.1 72 (31 + x1).toNatClampNeg) + q5.1))), q5.2)))
                              else
                              (some (.inl (some (.int ((q4.1 72 (31 + x1).toNatClampNeg) + q5.1)), q5.2)))))))
                else
                ((E.2.2 224 [.ref 66, .int 23] (zw q2.2 66 19 0)).bind fun q11 =>
                  (E.2.2 224 [.ref 66, .int 20] q11).bind fun q12 =>
                    (E.1 226 [.ref 66, .int x1] q12).bind fun q13 =>
                      some (.inl (some (.int (x1 - q13.1)), q13.2))))
              else
              (if x2 = 0 then
                ((E.1 226 [.ref 66, .int x1] (zw q2.2 66 19 0)).bind fun q25 =>
                  some (.inl (some (.int q25.1), q25.2)))
                else
                (if (q2.2.1 72 (3 + x1).toNatClampNeg) < 4 then
                  (if x2 = 1 then
                    ((E.1 225 [.ref 66, .int x1] (zw q2.2 66 19 0)).bind fun q21 =>
                      some (.inl (some (.int q21.1), q21.2)))
                    else
                    (if (q2.2.1 72 (3 + x1).toNatClampNeg) = 2 then
                      ((E.2.2 224 [.ref 66, .int 12] (zw q2.2 66 19 0)).bind fun q17 =>
                        (E.2.2 224 [.ref 66, .int 11] q17).bind fun q18 =>
                          (E.2.2 224 [.ref 66, .int 10] q18).bind fun q19 =>
                            zck (zin (31 + x1) 41)
                              ((E.1 225 [.ref 66, .int x1] q19).bind fun q20 =>
                                if (q2.2.1 72 (3 + x1).toNatClampNeg) = 2 then
                                  (some (.inl (some (.int (-((q19.1 72 (31 + x1).toNatClampNeg) + q20.1))), q20.2)))
                                  else
                                  (some (.inl (some (.int ((q19.1 72 (31 + x1).toNatClampNeg) + q20.1)), q20.2)))))
                      else
                      ((E.2.2 224 [.ref 66, .int 11] (zw q2.2 66 19 0)).bind fun q14 =>
                        (E.2.2 224 [.ref 66, .int 10] q14).bind fun q15 =>
                          zck (zin (31 + x1) 41)
                            ((E.1 225 [.ref 66, .int x1] q15).bind fun q16 =>
                              if (q2.2.1 72 (3 + x1).toNatClampNeg) = 2 then
                                (some (.inl (some (.int (-((q15.1 72 (31 + x1).toNatClampNeg) + q16.1))), q16.2)))
                                else
                                (some (.inl (some (.int ((q15.1 72 (31 + x1).toNatClampNeg) + q16.1)), q16.2)))))))
                  else
                  ((E.2.2 224 [.ref 66, .int 23] (zw q2.2 66 19 0)).bind fun q22 =>
                    (E.2.2 224 [.ref 66, .int 20] q22).bind fun q23 =>
                      (E.1 226 [.ref 66, .int x1] q23).bind fun q24 =>
                        some (.inl (some (.int (x1 - q24.1)), q24.2)))))))) := rfl
set_option maxRecDepth 100000 in
set_option maxHeartbeats 4000000 in
theorem e_X8_trace_0 (E : ZE) (M : ZM) (x1 : Int32) : zrun E tb_X8_trace cu_X8_trace 2000 [] 0 [some (.ref 66), some (.int x1)] [] M =
  (E.1 143 [.int x1, .int 0, .int ((M.1 66 19) - 1)] M).bind fun q1 =>
  if q1.1 = 0 then
    (some (.inl (some (.int (-1000000)), q1.2)))
    else
    (zck (zin x1 16)
      (some (.inl (some (.int (q1.2.1 79 x1.toNatClampNeg)), q1.2)))) := rfl
set_option maxRecDepth 100000 in
set_option maxHeartbeats 4000000 in
theorem e_X8_count_0 (E : ZE) (M : ZM) (x1 : Int32) : zrun E tb_X8_count cu_X8_count 2000 [] 0 [some (.ref 66), some (.int x1), none, none] [] M =
  some (.inr (4, [some (.ref 66), some (.int x1), some (.int 0), some (.int 0)], [], M)) := rfl
set_option maxRecDepth 100000 in
set_option maxHeartbeats 4000000 in
theorem e_X8_count_4 (E : ZE) (M : ZM) (x1 : Int32) (x2 : Int32) (x3 : Int32) : zrun E tb_X8_count cu_X8_count 2000 [] 4 [some (.ref 66), some (.int x1), some (.int x2), some (.int x3)] [] M =
  if 8 ≤ x3 then
  (if x1 = 0 then
    (some (.inl (some (.int x2), M)))
    else if x1 = 1 then
    (some (.inl (some (.int (M.1 72 0)), M)))
    else if x1 = 2 then
    (some (.inl (some (.int (M.1 72 2)), M)))
    else if x1 = 3 then
    ((E.1 172 [.ref 66] M).bind fun q1 =>
      (E.1 145 [.int q1.1] q1.2).bind fun q2 =>
        some (.inl (some (.int q2.1), q2.2)))
    else if x1 = 4 then
    ((E.1 173 [.ref 66] M).bind fun q3 =>
      some (.inl (some (.int q3.1), q3.2)))
    else if x1 = 5 then
    (some (.inl (some (.int (M.1 72 24)), M)))
    else if x1 = 6 then
    (some (.inl (some (.int (M.1 66 14)), M)))
    else if x1 = 7 then
    (some (.inl (some (.int (M.1 66 6)), M)))
    else (some (.inl (some (.int (-1000001)), M))))
  else
  (zck (zin x3 8)
    (if 0 ≤ (M.1 68 x3.toNatClampNeg) then
      (some (.inr (4, [some (.ref 66), some (.int x1), some (.int (x2 + 1)), some (.int (x3 + 1))], [], M)))
      else
      (some (.inr (4, [some (.ref 66), some (.int x1), some (.int (x2 + 0)), some (.int (x3 + 1))], [], M))))) := rfl
set_option maxRecDepth 100000 in
set_option maxHeartbeats 4000000 in
theorem e_X8_status_0 (E : ZE) (M : ZM) : zrun E tb_X8_status cu_X8_status 2000 [] 0 [some (.ref 66)] [] M =
  some (.inl (some (.int (M.1 66 4)), M)) := rfl

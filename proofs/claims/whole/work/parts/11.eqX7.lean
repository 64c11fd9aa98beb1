set_option maxRecDepth 100000 in
set_option maxHeartbeats 4000000 in
theorem e_X7_row_0 (E : ZE) (M : ZM) (x1 : Int32) (x2 : Int32) (x3 : Int32) : zrun E tb_X7_row cu_X7_row 2000 [] 0 [some (.ref 0), some (.int x1), some (.int x2), some (.int x3)] [] M =
  (E.1 126 [.int x1] M).bind fun q1 =>
  if q1.1 = 0 then
    (some (.inl (some (.int (-1000001)), q1.2)))
    else
    (if x2 < 0 then
      (some (.inl (some (.int (-1000001)), q1.2)))
      else
      (if 3 ≤ x2 then
        (some (.inl (some (.int (-1000001)), q1.2)))
        else
        (if x3 ≤ 40 then
          (if 0 ≤ x3 then
            (zck (zin x1 8)
              (zck (zis (zel 1 x1.toNatClampNeg) 4 && true)
                ((E.2.2 50 [.ref (zel 1 x1.toNatClampNeg), .int x2, .int x3] q1.2).bind fun q2 =>
                (E.1 121 [.ref 0, .int x3] q2).bind fun q3 =>
                  some (.inl (some (.int q3.1), q3.2)))))
            else
            ((E.1 120 [.ref 0, .int 4] q1.2).bind fun q4 =>
              some (.inl (some (.int q4.1), q4.2))))
          else
          (some (.inl (some (.int (-1000001)), q1.2)))))) := rfl
set_option maxRecDepth 100000 in
set_option maxHeartbeats 4000000 in
theorem e_X7_set_0 (E : ZE) (M : ZM) (x1 : Int32) (x2 : Int32) (x3 : Int32) : zrun E tb_X7_set cu_X7_set 2000 [] 0 [some (.ref 0), some (.int x1), some (.int x2), some (.int x3)] [] M =
  (E.1 126 [.int x1] M).bind fun q1 =>
  if q1.1 = 0 then
    (some (.inl (some (.int (-1000001)), q1.2)))
    else
    (zck (zin x1 8)
      (zck (zfi (zel 1 x1.toNatClampNeg) 4 1)
        (if (q1.2.1 (zel 1 x1.toNatClampNeg) 1) = 0 then
          ((E.1 120 [.ref 0, .int 1] q1.2).bind fun q6 =>
            some (.inl (some (.int q6.1), q6.2)))
          else
          (zck (zin x1 8)
            (zck (zis (zel 1 x1.toNatClampNeg) 4 && true)
              ((E.1 51 [.ref (zel 1 x1.toNatClampNeg), .int x2, .int 1] q1.2).bind fun q2 =>
              if q2.1 = 0 then
                ((E.1 120 [.ref 0, .int 2] q2.2).bind fun q5 =>
                  some (.inl (some (.int q5.1), q5.2)))
                else
                (zck (zin x1 8)
                  (zck (zis (zel 1 x1.toNatClampNeg) 4 && true)
                    ((E.1 52 [.ref (zel 1 x1.toNatClampNeg), .int x2, .int x3] q2.2).bind fun q3 =>
                    (E.1 121 [.ref 0, .int q3.1] q3.2).bind fun q4 =>
                      some (.inl (some (.int q4.1), q4.2))))))))))) := rfl
set_option maxRecDepth 100000 in
set_option maxHeartbeats 4000000 in
theorem e_X7_copy_0 (E : ZE) (M : ZM) (x1 : Int32) (x2 : Int32) (x3 : Int32) (x4 : Int32) (x5 : Int32) : zrun E tb_X7_copy cu_X7_copy 2000 [] 0 [some (.ref 0), some (.int x1), some (.int x2), some (.int x3), some (.int x4), some (.int x5), none, none] [] M =
  (E.1 126 [.int x1] M).bind fun q1 =>
  if q1.1 = 0 then
    (some (.inl (some (.int (-1000001)), q1.2)))
    else
    ((E.1 126 [.int x3] q1.2).bind fun q2 =>
      if q2.1 = 0 then
        (some (.inl (some (.int (-1000001)), q2.2)))
        else
        (zck (zin x1 8)
          (zck (zin x3 8)
            (zck (zfi (zel 1 x1.toNatClampNeg) 4 1)
              (if (q2.2.1 (zel 1 x1.toNatClampNeg) 1) = 0 then
                ((E.1 120 [.ref 0, .int 1] q2.2).bind fun q3 =>
                  some (.inl (some (.int q3.1), q3.2)))
                else
                (zck (zfi (zel 1 x3.toNatClampNeg) 4 1)
                  (if (q2.2.1 (zel 1 x3.toNatClampNeg) 1) = 0 then
                    ((E.1 120 [.ref 0, .int 1] q2.2).bind fun q10 =>
                      some (.inl (some (.int q10.1), q10.2)))
                    else
                    (zck (zfi (zel 1 x1.toNatClampNeg) 4 2)
                      (zck (zfi (zel 1 x3.toNatClampNeg) 4 2)
                        (if (q2.2.1 (zel 1 x1.toNatClampNeg) 2) = (q2.2.1 (zel 1 x3.toNatClampNeg) 2) then
                          (zck (zis (zel 1 x1.toNatClampNeg) 4 && true)
                            ((E.1 51 [.ref (zel 1 x1.toNatClampNeg), .int x2, .int x5] q2.2).bind fun q4 =>
                            if q4.1 = 0 then
                              ((E.1 120 [.ref 0, .int 2] q4.2).bind fun q5 =>
                                some (.inl (some (.int q5.1), q5.2)))
                              else
                              (zck (zis (zel 1 x3.toNatClampNeg) 4 && true)
                                ((E.1 51 [.ref (zel 1 x3.toNatClampNeg), .int x4, .int x5] q4.2).bind fun q6 =>
                                if q6.1 = 0 then
                                  ((E.1 120 [.ref 0, .int 2] q6.2).bind fun q8 =>
                                    some (.inl (some (.int q8.1), q8.2)))
                                  else
                                  (zck (zfr (zel 1 x1.toNatClampNeg) 4 0)
                                    (zck (zfr (zel 1 x3.toNatClampNeg) 4 0)
                                      (zck (zty (zrf (zel 1 x1.toNatClampNeg) 0) 0 && zty (zrf (zel 1 x3.toNatClampNeg) 0) 0 && (!(decide (x2 < 0)) && !(decide (x4 < 0)) && !(decide (x5 < 0)) && decide (x2.toNatClampNeg + x5.toNatClampNeg ≤ zln (zrf (zel 1 x1.toNatClampNeg) 0)) && decide (x4.toNatClampNeg + x5.toNatClampNeg ≤ zln (zrf (zel 1 x3.toNatClampNeg) 0))))
                                        ((E.1 121 [.ref 0, .int x5] (zcp q6.2 (zrf (zel 1 x1.toNatClampNeg) 0) x2.toNatClampNeg (zrf (zel 1 x3.toNatClampNeg) 0) x4.toNatClampNeg x5.toNatClampNeg)).bind fun q7 =>
                                          some (.inl (some (.int q7.1), q7.2))))))))))
                          else
                          ((E.1 120 [.ref 0, .int 5] q2.2).bind fun q9 =>
                            some (.inl (some (.int q9.1), q9.2))))))))))))) := rfl
set_option maxRecDepth 100000 in
set_option maxHeartbeats 4000000 in
theorem e_X7_drop_0 (E : ZE) (M : ZM) (x1 : Int32) : zrun E tb_X7_drop cu_X7_drop 2000 [] 0 [some (.ref 0), some (.int x1)] [] M =
  (E.1 126 [.int x1] M).bind fun q1 =>
  if q1.1 = 0 then
    (some (.inl (some (.int (-1000001)), q1.2)))
    else
    (zck (zin x1 8)
      (zck (zfi (zel 1 x1.toNatClampNeg) 4 1)
        (if (q1.2.1 (zel 1 x1.toNatClampNeg) 1) = 0 then
          ((E.1 120 [.ref 0, .int 1] q1.2).bind fun q3 =>
            some (.inl (some (.int q3.1), q3.2)))
          else
          (zck (zin x1 8)
            (zck (zfi (zel 1 x1.toNatClampNeg) 4 1 && true)
              (zck (zin x1 8)
                (zck (zfi (zel 1 x1.toNatClampNeg) 4 3)
                  ((E.1 121 [.ref 0, .int ((zw q1.2 (zel 1 x1.toNatClampNeg) 1 0).1 (zel 1 x1.toNatClampNeg) 3)] (zw q1.2 (zel 1 x1.toNatClampNeg) 1 0)).bind fun q2 =>
                    some (.inl (some (.int q2.1), q2.2)))))))))) := rfl
set_option maxRecDepth 100000 in
set_option maxHeartbeats 4000000 in
theorem e_X7_feed_0 (E : ZE) (M : ZM) (x1 : Int32) : zrun E tb_X7_feed cu_X7_feed 2000 [] 0 [some (.ref 0), some (.int x1)] [] M =
  if x1 < 0 then
  (some (.inl (some (.int (-1000001)), M)))
  else
  (if x1 ≤ 255 then
    ((E.1 38 [.ref 18, .int x1] M).bind fun q1 =>
      if q1.1 = 0 then
        (some (.inl (some (.int (-1000003)), q1.2)))
        else
        (some (.inl (some (.int (q1.2.1 18 1)), q1.2))))
    else
    (some (.inl (some (.int (-1000001)), M)))) := rfl
set_option maxRecDepth 100000 in
set_option maxHeartbeats 4000000 in
theorem e_X7_sheet_0 (E : ZE) (M : ZM) : zrun E tb_X7_sheet cu_X7_sheet 2000 [] 0 [some (.ref 0)] [] M =
  (E.1 39 [.ref 18, .ref 27] M).bind fun q1 =>
  if q1.1 = 0 then
    (some (.inl (some (.int ((-1000100) - (q1.2.1 18 3))), q1.2)))
    else
    ((E.2.2 131 [.ref 0, .ref 27] q1.2).bind fun q2 =>
      some (.inl (some (.int (q2.1 20 1)), q2))) := rfl
set_option maxRecDepth 100000 in
set_option maxHeartbeats 4000000 in
theorem e_X7_fault_0 (E : ZE) (M : ZM) : zrun E tb_X7_fault cu_X7_fault 2000 [] 0 [some (.ref 0)] [] M =
  some (.inl (some (.int (M.1 18 6)), M)) := rfl
set_option maxRecDepth 100000 in
set_option maxHeartbeats 4000000 in
theorem e_X7_undo_0 (E : ZE) (M : ZM) : zrun E tb_X7_undo cu_X7_undo 2000 [] 0 [some (.ref 0)] [] M =
  if (M.1 49 4) = 0 then
  (some (.inl (some (.int (-1000002)), M)))
  else
  ((E.2.2 1 [.ref 49, .ref 20] M).bind fun q1 =>
    some (.inl (some (.int (q1.1 49 4)), q1))) := rfl
set_option maxRecDepth 100000 in
set_option maxHeartbeats 4000000 in
theorem e_X7_serve_0 (E : ZE) (M : ZM) (x1 : Int32) (x2 : Int32) : zrun E tb_X7_serve cu_X7_serve 2000 [] 0 [some (.ref 0), some (.int x1), some (.int x2), none] [] M =
  (E.1 125 [.ref 0, .int x1] M).bind fun q1 =>
  if q1.1 = 0 then
    (some (.inl (some (.int (-1000001)), q1.2)))
    else
    ((E.1 12 [.ref 53, .ref 20, .int x2] q1.2).bind fun q2 =>
      if q2.1 = 0 then
        (some (.inl (some (.int (-1000001)), q2.2)))
        else
        ((E.1 63 [.ref 20, .int x1] q2.2).bind fun q3 =>
          if q3.1 = 0 then
            ((E.1 68 [.ref 20, .int x2] q3.2).bind fun q4 =>
              (E.1 64 [.ref 20, .int x1, .int q4.1] q4.2).bind fun q5 =>
                if q5.1 = 0 then
                  (some (.inl (some (.int (-1000002)), q5.2)))
                  else
                  ((E.1 70 [.ref 20, .int x2] q5.2).bind fun q6 =>
                    (E.2.2 58 [.ref 20, .int x1, .int x2, .int q6.1] q6.2).bind fun q7 =>
                      (E.2.2 0 [.ref 49, .int 0, .int x1, .int q6.1] q7).bind fun q8 =>
                        some (.inl (some (.int q6.1), q8))))
            else
            (some (.inl (some (.int (-1000002)), q3.2))))) := rfl
set_option maxRecDepth 100000 in
set_option maxHeartbeats 4000000 in
theorem e_X7_bringBack_0 (E : ZE) (M : ZM) (x1 : Int32) : zrun E tb_X7_bringBack cu_X7_bringBack 2000 [] 0 [some (.ref 0), some (.int x1), none] [] M =
  (E.1 125 [.ref 0, .int x1] M).bind fun q1 =>
  if q1.1 = 0 then
    (some (.inl (some (.int (-1000001)), q1.2)))
    else
    ((E.1 63 [.ref 20, .int x1] q1.2).bind fun q2 =>
      if q2.1 = 0 then
        (some (.inl (some (.int (-1000002)), q2.2)))
        else
        (zck (zin x1 5)
          ((E.2.2 59 [.ref 20, .int x1] q2.2).bind fun q3 =>
            (E.2.2 0 [.ref 49, .int 1, .int x1, .int (q2.2.1 26 x1.toNatClampNeg)] q3).bind fun q4 =>
              (E.1 68 [.ref 20, .int (q2.2.1 26 x1.toNatClampNeg)] q4).bind fun q5 =>
                some (.inl (some (.int q5.1), q5.2))))) := rfl
set_option maxRecDepth 100000 in
set_option maxHeartbeats 4000000 in
theorem e_X7_spoil_0 (E : ZE) (M : ZM) (x1 : Int32) : zrun E tb_X7_spoil cu_X7_spoil 2000 [] 0 [some (.ref 0), some (.int x1)] [] M =
  (E.1 123 [.ref 0, .int x1] M).bind fun q1 =>
  if q1.1 = 0 then
    (some (.inl (some (.int (-1000001)), q1.2)))
    else
    ((E.1 61 [.ref 20, .int x1] q1.2).bind fun q2 =>
      if q2.1 = 0 then
        (some (.inl (some (.int (-1000002)), q2.2)))
        else
        ((E.2.2 60 [.ref 20, .int x1] q2.2).bind fun q3 =>
          (E.2.2 0 [.ref 49, .int 2, .int x1, .int 0] q3).bind fun q4 =>
            (E.1 233 [.int (q4.1 20 5)] q4).bind fun q5 =>
              some (.inl (some (.int q5.1), q5.2)))) := rfl
set_option maxRecDepth 100000 in
set_option maxHeartbeats 4000000 in
theorem e_X7_value_0 (E : ZE) (M : ZM) (x1 : Int32) (x2 : Int32) : zrun E tb_X7_value cu_X7_value 2000 [] 0 [some (.ref 0), some (.int x1), some (.int x2), none] [] M =
  (E.1 123 [.ref 0, .int x1] M).bind fun q1 =>
  if q1.1 = 0 then
    (some (.inl (some (.int (-1000001)), q1.2)))
    else
    ((E.1 127 [.int x2] q1.2).bind fun q2 =>
      if q2.1 = 0 then
        (some (.inl (some (.int (-1000001)), q2.2)))
        else
        (zck (zin x1 10)
          (zck (zin x1 10)
            ((E.2.2 0 [.ref 49, .int 3, .int x1, .int (q2.2.1 23 x1.toNatClampNeg)] (zw q2.2 23 x1.toNatClampNeg x2)).bind fun q3 =>
              some (.inl (some (.int (q2.2.1 23 x1.toNatClampNeg)), q3)))))) := rfl
set_option maxRecDepth 100000 in
set_option maxHeartbeats 4000000 in
theorem e_X7_over_0 (E : ZE) (M : ZM) (x1 : Int32) : zrun E tb_X7_over cu_X7_over 2000 [] 0 [some (.ref 0), some (.int x1), none] [] M =
  (E.1 122 [.ref 0] M).bind fun q1 =>
  if q1.1 = 0 then
    (some (.inl (some (.int (-1000002)), q1.2)))
    else
    ((E.1 127 [.int x1] q1.2).bind fun q2 =>
      if q2.1 = 0 then
        (some (.inl (some (.int (-1000001)), q2.2)))
        else
        ((E.2.2 0 [.ref 49, .int 4, .int 0, .int (q2.2.1 20 3)] (zw q2.2 20 3 x1)).bind fun q3 =>
            some (.inl (some (.int (q2.2.1 20 3)), q3)))) := rfl
set_option maxRecDepth 100000 in
set_option maxHeartbeats 4000000 in
theorem e_X7_cell_0 (E : ZE) (M : ZM) (x1 : Int32) (x2 : Int32) : zrun E tb_X7_cell cu_X7_cell 2000 [] 0 [some (.ref 0), some (.int x1), some (.int x2)] [] M =
  (E.1 123 [.ref 0, .int x1] M).bind fun q1 =>
  if q1.1 = 0 then
    (some (.inl (some (.int (-1000001)), q1.2)))
    else
    (if x2 = 0 then
      (zck (zin x1 10)
        (some (.inl (some (.int (q1.2.1 23 x1.toNatClampNeg)), q1.2))))
      else if x2 = 1 then
      ((E.1 66 [.ref 20, .int x1] q1.2).bind fun q2 =>
        some (.inl (some (.int q2.1), q2.2)))
      else if x2 = 2 then
      (zck (zin x1 10)
        (some (.inl (some (.int ((q1.2.1 21 x1.toNatClampNeg) &&& (q1.2.1 20 5))), q1.2))))
      else if x2 = 3 then
      ((E.1 67 [.ref 20, .int x1] q1.2).bind fun q3 =>
        some (.inl (some (.int q3.1), q3.2)))
      else (some (.inl (some (.int (-1000001)), q1.2)))) := rfl
set_option maxRecDepth 100000 in
set_option maxHeartbeats 4000000 in
theorem e_X7_customer_0 (E : ZE) (M : ZM) (x1 : Int32) (x2 : Int32) : zrun E tb_X7_customer cu_X7_customer 2000 [] 0 [some (.ref 0), some (.int x1), some (.int x2)] [] M =
  (E.1 125 [.ref 0, .int x1] M).bind fun q1 =>
  if q1.1 = 0 then
    (some (.inl (some (.int (-1000001)), q1.2)))
    else
    (if x2 = 0 then
      (zck (zin x1 5)
        (some (.inl (some (.int (q1.2.1 24 x1.toNatClampNeg)), q1.2))))
      else if x2 = 1 then
      (zck (zin x1 5)
        (some (.inl (some (.int (q1.2.1 25 x1.toNatClampNeg)), q1.2))))
      else if x2 = 2 then
      (zck (zin x1 5)
        (some (.inl (some (.int (q1.2.1 26 x1.toNatClampNeg)), q1.2))))
      else (some (.inl (some (.int (-1000001)), q1.2)))) := rfl
set_option maxRecDepth 100000 in
set_option maxHeartbeats 4000000 in
theorem e_X7_stand_0 (E : ZE) (M : ZM) (x1 : Int32) : zrun E tb_X7_stand cu_X7_stand 2000 [] 0 [some (.ref 0), some (.int x1)] [] M =
  (E.1 122 [.ref 0] M).bind fun q1 =>
  if q1.1 = 0 then
    (some (.inl (some (.int (-1000002)), q1.2)))
    else
    (if x1 = 0 then
      (some (.inl (some (.int (q1.2.1 20 5)), q1.2)))
      else if x1 = 1 then
      ((E.1 65 [.ref 20] q1.2).bind fun q2 =>
        some (.inl (some (.int q2.1), q2.2)))
      else if x1 = 2 then
      (some (.inl (some (.int (q1.2.1 20 4)), q1.2)))
      else if x1 = 3 then
      (some (.inl (some (.int (q1.2.1 20 3)), q1.2)))
      else if x1 = 4 then
      (some (.inl (some (.int (q1.2.1 20 6)), q1.2)))
      else (some (.inl (some (.int (-1000001)), q1.2)))) := rfl
set_option maxRecDepth 100000 in
set_option maxHeartbeats 4000000 in
theorem e_X7_piece_0 (E : ZE) (M : ZM) (x1 : Int32) (x2 : Int32) : zrun E tb_X7_piece cu_X7_piece 2000 [] 0 [some (.ref 0), some (.int x1), some (.int x2)] [] M =
  (E.1 12 [.ref 53, .ref 20, .int x1] M).bind fun q1 =>
  if q1.1 = 0 then
    (some (.inl (some (.int (-1000001)), q1.2)))
    else
    (if x2 = 0 then
      ((E.1 68 [.ref 20, .int x1] q1.2).bind fun q2 =>
        some (.inl (some (.int q2.1), q2.2)))
      else if x2 = 1 then
      ((E.1 70 [.ref 20, .int x1] q1.2).bind fun q3 =>
        some (.inl (some (.int q3.1), q3.2)))
      else if x2 = 2 then
      ((E.1 233 [.int x1] q1.2).bind fun q4 =>
        some (.inl (some (.int q4.1), q4.2)))
      else if x2 = 3 then
      ((E.1 73 [.ref 20, .int ((q1.2.1 20 5) ^^^ x1)] q1.2).bind fun q5 =>
        some (.inl (some (.int q5.1), q5.2)))
      else (some (.inl (some (.int (-1000001)), q1.2)))) := rfl
set_option maxRecDepth 100000 in
set_option maxHeartbeats 4000000 in
theorem e_X7_parts_0 (E : ZE) (M : ZM) (x1 : Int32) : zrun E tb_X7_parts cu_X7_parts 2000 [] 0 [some (.ref 0), some (.int x1)] [] M =
  (E.1 122 [.ref 0] M).bind fun q1 =>
  if q1.1 = 0 then
    (some (.inl (some (.int (-1000002)), q1.2)))
    else
    (if (-1) ≤ x1 then
      (if x1 = (-1) then
        ((E.1 73 [.ref 20, .int (q1.2.1 20 5)] q1.2).bind fun q3 =>
          some (.inl (some (.int q3.1), q3.2)))
        else
        ((E.1 74 [.ref 20, .int x1] q1.2).bind fun q2 =>
          some (.inl (some (.int q2.1), q2.2))))
      else
      (some (.inl (some (.int (-1000001)), q1.2)))) := rfl
set_option maxRecDepth 100000 in
set_option maxHeartbeats 4000000 in
theorem e_X7_pieces_0 (E : ZE) (M : ZM) (x1 : Int32) (x2 : Int32) : zrun E tb_X7_pieces cu_X7_pieces 2000 [] 0 [some (.ref 0), some (.int x1), some (.int x2)] [] M =
  (E.1 122 [.ref 0] M).bind fun q1 =>
  if q1.1 = 0 then
    (some (.inl (some (.int (-1000002)), q1.2)))
    else
    (if x1 < 1 then
      (some (.inl (some (.int (-1000001)), q1.2)))
      else
      (if x1 ≤ 10 then
        (if x2 = 0 then
          ((E.1 14 [.ref 53, .ref 20] q1.2).bind fun q2 =>
            some (.inl (some (.int q2.1), q2.2)))
          else if x2 = 1 then
          ((E.1 15 [.ref 53, .ref 20, .int x1, .int 0] q1.2).bind fun q3 =>
            some (.inl (some (.int q3.1), q3.2)))
          else if x2 = 2 then
          ((E.1 15 [.ref 53, .ref 20, .int x1, .int 1] q1.2).bind fun q4 =>
            some (.inl (some (.int q4.1), q4.2)))
          else (some (.inl (some (.int (-1000001)), q1.2))))
        else
        (some (.inl (some (.int (-1000001)), q1.2))))) := rfl
set_option maxRecDepth 100000 in
set_option maxHeartbeats 4000000 in
theorem e_X7_sums_0 (E : ZE) (M : ZM) (x1 : Int32) : zrun E tb_X7_sums cu_X7_sums 2000 [] 0 [some (.ref 0), some (.int x1)] [] M =
  (E.1 122 [.ref 0] M).bind fun q1 =>
  if q1.1 = 0 then
    (some (.inl (some (.int (-1000002)), q1.2)))
    else
    (if x1 < 0 then
      (some (.inl (some (.int (-1000001)), q1.2)))
      else
      (if x1 ≤ 2 then
        ((E.2.2 11 [.ref 53, .ref 20] q1.2).bind fun q2 =>
          if x1 = 2 then
            ((E.1 20 [.ref 53, .ref 20] q2).bind fun q6 =>
              some (.inl (some (.int q6.1), q6.2)))
            else
            ((E.2.2 17 [.ref 53, .ref 20] q2).bind fun q3 =>
              if x1 = 0 then
                ((E.1 18 [.ref 53] q3).bind fun q5 =>
                  some (.inl (some (.int q5.1), q5.2)))
                else
                ((E.1 19 [.ref 53] q3).bind fun q4 =>
                  some (.inl (some (.int q4.1), q4.2)))))
        else
        (some (.inl (some (.int (-1000001)), q1.2))))) := rfl
set_option maxRecDepth 100000 in
set_option maxHeartbeats 4000000 in
theorem e_X7_best_0 (E : ZE) (M : ZM) (x1 : Int32) (x2 : Int32) : zrun E tb_X7_best cu_X7_best 2000 [] 0 [some (.ref 0), some (.int x1), some (.int x2), none] [] M =
  (E.1 125 [.ref 0, .int x1] M).bind fun q1 =>
  if q1.1 = 0 then
    (some (.inl (some (.int (-1000001)), q1.2)))
    else
    ((E.1 128 [.int x2] q1.2).bind fun q2 =>
      if q2.1 = 0 then
        (some (.inl (some (.int (-1000001)), q2.2)))
        else
        ((E.1 63 [.ref 20, .int x1] q2.2).bind fun q3 =>
          if q3.1 = 0 then
            ((E.2.2 11 [.ref 53, .ref 20] q3.2).bind fun q4 =>
              (E.1 21 [.ref 53, .ref 20, .int x1] q4).bind fun q5 =>
                if q5.1 = 0 then
                  (some (.inl (some (.int (-1000000)), q5.2)))
                  else
                  (if x2 = 0 then
                    (some (.inl (some (.int q5.1), q5.2)))
                    else
                    ((E.1 70 [.ref 20, .int q5.1] q5.2).bind fun q6 =>
                      some (.inl (some (.int q6.1), q6.2)))))
            else
            (some (.inl (some (.int (-1000002)), q3.2))))) := rfl
set_option maxRecDepth 100000 in
set_option maxHeartbeats 4000000 in
theorem e_X7_ways_0 (E : ZE) (M : ZM) (x1 : Int32) : zrun E tb_X7_ways cu_X7_ways 2000 [] 0 [some (.ref 0), some (.int x1)] [] M =
  (E.1 125 [.ref 0, .int x1] M).bind fun q1 =>
  if q1.1 = 0 then
    (some (.inl (some (.int (-1000001)), q1.2)))
    else
    ((E.1 63 [.ref 20, .int x1] q1.2).bind fun q2 =>
      if q2.1 = 0 then
        ((E.2.2 11 [.ref 53, .ref 20] q2.2).bind fun q3 =>
          (E.1 23 [.ref 53, .ref 20, .int x1] q3).bind fun q4 =>
            some (.inl (some (.int q4.1), q4.2)))
        else
        (some (.inl (some (.int (-1000002)), q2.2)))) := rfl
set_option maxRecDepth 100000 in
set_option maxHeartbeats 4000000 in
theorem e_X7_thrift_0 (E : ZE) (M : ZM) (x1 : Int32) (x2 : Int32) : zrun E tb_X7_thrift cu_X7_thrift 2000 [] 0 [some (.ref 0), some (.int x1), some (.int x2), none] [] M =
  (E.1 125 [.ref 0, .int x1] M).bind fun q1 =>
  if q1.1 = 0 then
    (some (.inl (some (.int (-1000001)), q1.2)))
    else
    ((E.1 128 [.int x2] q1.2).bind fun q2 =>
      if q2.1 = 0 then
        (some (.inl (some (.int (-1000001)), q2.2)))
        else
        ((E.1 63 [.ref 20, .int x1] q2.2).bind fun q3 =>
          if q3.1 = 0 then
            ((E.2.2 11 [.ref 53, .ref 20] q3.2).bind fun q4 =>
              (E.1 24 [.ref 53, .ref 20, .int x1] q4).bind fun q5 =>
                if q5.1 = 0 then
                  (some (.inl (some (.int (-1000000)), q5.2)))
                  else
                  (if x2 = 0 then
                    (some (.inl (some (.int q5.1), q5.2)))
                    else
                    ((E.1 68 [.ref 20, .int q5.1] q5.2).bind fun q6 =>
                      some (.inl (some (.int q6.1), q6.2)))))
            else
            (some (.inl (some (.int (-1000002)), q3.2))))) := rfl
set_option maxRecDepth 100000 in
set_option maxHeartbeats 4000000 in
theorem e_X7_serving_0 (E : ZE) (M : ZM) (x1 : Int32) : zrun E tb_X7_serving cu_X7_serving 2000 [] 0 [some (.ref 0), some (.int x1), none] [] M =
  (E.1 122 [.ref 0] M).bind fun q1 =>
  if q1.1 = 0 then
    (some (.inl (some (.int (-1000002)), q1.2)))
    else
    (if x1 < (-2) then
      (some (.inl (some (.int (-1000001)), q1.2)))
      else
      (if x1 < (q1.2.1 20 2) then
        ((E.2.2 11 [.ref 53, .ref 20] q1.2).bind fun q2 =>
          (E.1 25 [.ref 53, .ref 20] q2).bind fun q3 =>
            if x1 = (-1) then
              ((E.1 233 [.int q3.1] q3.2).bind fun q5 =>
                some (.inl (some (.int q5.1), q5.2)))
              else
              (if x1 = (-2) then
                (some (.inl (some (.int q3.1), q3.2)))
                else
                ((E.1 32 [.ref 53, .ref 20, .int q3.1, .int x1] q3.2).bind fun q4 =>
                  some (.inl (some (.int q4.1), q4.2)))))
        else
        (some (.inl (some (.int (-1000001)), q1.2))))) := rfl
set_option maxRecDepth 100000 in
set_option maxHeartbeats 4000000 in
theorem e_X7_couples_0 (E : ZE) (M : ZM) : zrun E tb_X7_couples cu_X7_couples 2000 [] 0 [some (.ref 0)] [] M =
  (E.1 122 [.ref 0] M).bind fun q1 =>
  if q1.1 = 0 then
    (some (.inl (some (.int (-1000002)), q1.2)))
    else
    ((E.1 34 [.ref 53, .ref 20] q1.2).bind fun q2 =>
      some (.inl (some (.int q2.1), q2.2))) := rfl
set_option maxRecDepth 100000 in
set_option maxHeartbeats 4000000 in
theorem e_X7_parting_0 (E : ZE) (M : ZM) (x1 : Int32) (x2 : Int32) (x3 : Int32) : zrun E tb_X7_parting cu_X7_parting 2000 [] 0 [some (.ref 0), some (.int x1), some (.int x2), some (.int x3), none] [] M =
  (E.1 124 [.ref 0, .int x1, .int x2] M).bind fun q1 =>
  if q1.1 = 0 then
    (some (.inl (some (.int (-1000001)), q1.2)))
    else
    ((E.1 128 [.int x3] q1.2).bind fun q2 =>
      if q2.1 = 0 then
        (some (.inl (some (.int (-1000001)), q2.2)))
        else
        ((E.1 61 [.ref 20, .int x1] q2.2).bind fun q3 =>
          if q3.1 = 0 then
            (some (.inl (some (.int (-1000002)), q3.2)))
            else
            ((E.1 61 [.ref 20, .int x2] q3.2).bind fun q4 =>
              if q4.1 = 0 then
                (some (.inl (some (.int (-1000002)), q4.2)))
                else
                ((E.1 35 [.ref 53, .ref 20, .int x1, .int x2] q4.2).bind fun q5 =>
                  if x3 = 0 then
                    ((E.1 70 [.ref 20, .int q5.1] q5.2).bind fun q6 =>
                      some (.inl (some (.int q6.1), q6.2)))
                    else
                    (some (.inl (some (.int q5.1), q5.2))))))) := rfl
set_option maxRecDepth 100000 in
set_option maxHeartbeats 4000000 in
theorem e_X7_way_0 (E : ZE) (M : ZM) (x1 : Int32) (x2 : Int32) (x3 : Int32) : zrun E tb_X7_way cu_X7_way 2000 [] 0 [some (.ref 0), some (.int x1), some (.int x2), some (.int x3)] [] M =
  (E.1 124 [.ref 0, .int x1, .int x2] M).bind fun q1 =>
  if q1.1 = 0 then
    (some (.inl (some (.int (-1000001)), q1.2)))
    else
    ((E.1 128 [.int x3] q1.2).bind fun q2 =>
      if q2.1 = 0 then
        (some (.inl (some (.int (-1000001)), q2.2)))
        else
        ((E.1 61 [.ref 20, .int x1] q2.2).bind fun q3 =>
          if q3.1 = 0 then
            (some (.inl (some (.int (-1000002)), q3.2)))
            else
            ((E.1 61 [.ref 20, .int x2] q3.2).bind fun q4 =>
              if q4.1 = 0 then
                (some (.inl (some (.int (-1000002)), q4.2)))
                else
                (if x3 = 0 then
                  ((E.1 75 [.ref 20, .int x1, .int x2] q4.2).bind fun q6 =>
                    some (.inl (some (.int q6.1), q6.2)))
                  else
                  ((E.1 76 [.ref 20, .int x1, .int x2] q4.2).bind fun q5 =>
                    some (.inl (some (.int q5.1), q5.2))))))) := rfl
set_option maxRecDepth 100000 in
set_option maxHeartbeats 4000000 in
theorem e_X7_lone_0 (E : ZE) (M : ZM) : zrun E tb_X7_lone cu_X7_lone 2000 [] 0 [some (.ref 0), none, none, none] [] M =
  (E.1 122 [.ref 0] M).bind fun q1 =>
  if q1.1 = 0 then
    (some (.inl (some (.int (-1000002)), q1.2)))
    else
    ((E.1 73 [.ref 20, .int (q1.2.1 20 5)] q1.2).bind fun q2 =>
      some (.inr (29, [some (.ref 0), some (.int q2.1), some (.int 0), some (.int 0)], [], q2.2))) := rfl
set_option maxRecDepth 100000 in
set_option maxHeartbeats 4000000 in
theorem e_X7_lone_29 (E : ZE) (M : ZM) (x1 : Int32) (x2 : Int32) (x3 : Int32) : zrun E tb_X7_lone cu_X7_lone 2000 [] 29 [some (.ref 0), some (.int x1), some (.int x2), some (.int x3)] [] M =
  if (M.1 20 1) ≤ x3 then
  (some (.inl (some (.int x2), M)))
  else
  ((E.1 61 [.ref 20, .int x3] M).bind fun q1 =>
    if q1.1 = 0 then
      (some (.inr (29, [some (.ref 0), some (.int x1), some (.int x2), some (.int (x3 + 1))], [], q1.2)))
      else
      ((E.1 73 [.ref 20, .int ((q1.2.1 20 5) ^^^ (zshl 1 x3))] q1.2).bind fun q2 =>
        if q2.1 ≤ x1 then
          (some (.inr (29, [some (.ref 0), some (.int x1), some (.int x2), some (.int (x3 + 1))], [], q2.2)))
          else
          (some (.inr (29, [some (.ref 0), some (.int x1), some (.int (x2 ||| (zshl 1 x3))), some (.int (x3 + 1))], [], q2.2))))) := rfl
set_option maxRecDepth 100000 in
set_option maxHeartbeats 4000000 in
theorem e_X7_who_0 (E : ZE) (M : ZM) (x1 : Int32) (x2 : Int32) (x3 : Int32) (x4 : Int32) (x5 : Int32) (x6 : Int32) (x7 : Int32) : zrun E tb_X7_who cu_X7_who 2000 [] 0 [some (.ref 0), some (.int x1), some (.int x2), some (.int x3), some (.int x4), some (.int x5), some (.int x6), some (.int x7), none] [] M =
  (E.1 123 [.ref 0, .int x1] M).bind fun q1 =>
  if q1.1 = 0 then
    (some (.inl (some (.int (-1000001)), q1.2)))
    else
    ((E.1 128 [.int x2] q1.2).bind fun q2 =>
      if q2.1 = 0 then
        (some (.inl (some (.int (-1000001)), q2.2)))
        else
        ((E.1 129 [.int x3, .int x5, .int x7] q2.2).bind fun q3 =>
          if q3.1 = 0 then
            (some (.inl (some (.int (-1000001)), q3.2)))
            else
            ((E.1 136 [.ref 0, .int x3, .int x4, .int x5, .int x6, .int x7] q3.2).bind fun q4 =>
              if q4.1 = 0 then
                (if x2 = 0 then
                  ((E.1 137 [.ref 0, .int x1] q4.2).bind fun q7 =>
                    (E.1 121 [.ref 0, .int q7.1] q7.2).bind fun q8 =>
                      some (.inl (some (.int q8.1), q8.2)))
                  else
                  ((E.1 138 [.ref 0, .int x1] q4.2).bind fun q5 =>
                    (E.1 121 [.ref 0, .int q5.1] q5.2).bind fun q6 =>
                      some (.inl (some (.int q6.1), q6.2))))
                else
                ((E.1 120 [.ref 0, .int q4.1] q4.2).bind fun q9 =>
                  some (.inl (some (.int q9.1), q9.2)))))) := rfl
set_option maxRecDepth 100000 in
set_option maxHeartbeats 4000000 in
theorem e_X7_fits_0 (E : ZE) (M : ZM) (x1 : Int32) (x2 : Int32) (x3 : Int32) (x4 : Int32) (x5 : Int32) (x6 : Int32) : zrun E tb_X7_fits cu_X7_fits 2000 [] 0 [some (.ref 0), some (.int x1), some (.int x2), some (.int x3), some (.int x4), some (.int x5), some (.int x6), none] [] M =
  (E.1 122 [.ref 0] M).bind fun q1 =>
  if q1.1 = 0 then
    (some (.inl (some (.int (-1000002)), q1.2)))
    else
    (if x1 < 0 then
      (some (.inl (some (.int (-1000001)), q1.2)))
      else
      (if 2 < x1 then
        (some (.inl (some (.int (-1000001)), q1.2)))
        else
        ((E.1 129 [.int x2, .int x4, .int x6] q1.2).bind fun q2 =>
          if q2.1 = 0 then
            (some (.inl (some (.int (-1000001)), q2.2)))
            else
            ((E.1 136 [.ref 0, .int x2, .int x3, .int x4, .int x5, .int x6] q2.2).bind fun q3 =>
              if q3.1 = 0 then
                (if x1 = 0 then
                  ((E.1 139 [.ref 0] q3.2).bind fun q8 =>
                    (E.1 121 [.ref 0, .int q8.1] q8.2).bind fun q9 =>
                      some (.inl (some (.int q9.1), q9.2)))
                  else
                  (if x1 = 1 then
                    ((E.1 140 [.ref 0] q3.2).bind fun q6 =>
                      (E.1 121 [.ref 0, .int q6.1] q6.2).bind fun q7 =>
                        some (.inl (some (.int q7.1), q7.2)))
                    else
                    ((E.1 141 [.ref 0] q3.2).bind fun q4 =>
                      (E.1 121 [.ref 0, .int q4.1] q4.2).bind fun q5 =>
                        some (.inl (some (.int q5.1), q5.2)))))
                else
                ((E.1 120 [.ref 0, .int q3.1] q3.2).bind fun q10 =>
                  some (.inl (some (.int q10.1), q10.2))))))) := rfl
set_option maxRecDepth 100000 in
set_option maxHeartbeats 4000000 in
theorem e_X7_wrong_0 (E : ZE) (M : ZM) (x1 : Int32) (x2 : Int32) (x3 : Int32) (x4 : Int32) : zrun E tb_X7_wrong cu_X7_wrong 2000 [] 0 [some (.ref 0), some (.int x1), some (.int x2), some (.int x3), some (.int x4), none, none, none, none, none, none] [] M =
  (E.1 12 [.ref 53, .ref 20, .int x1] M).bind fun q1 =>
  if q1.1 = 0 then
    (some (.inl (some (.long (-1000001)), q1.2)))
    else
    (if x2 < 0 then
      (some (.inl (some (.long (-1000001)), q1.2)))
      else
      (if 10 < x2 then
        (some (.inl (some (.long (-1000001)), q1.2)))
        else
        (if x3 < 0 then
          (some (.inl (some (.long (-1000001)), q1.2)))
          else
          (if 10 < x3 then
            (some (.inl (some (.long (-1000001)), q1.2)))
            else
            ((E.1 128 [.int x4] q1.2).bind fun q2 =>
              if q2.1 = 0 then
                (some (.inl (some (.long (-1000001)), q2.2)))
                else
                ((E.1 70 [.ref 20, .int x1] q2.2).bind fun q3 =>
                  (E.2.1 134 [.long 10, .int q3.1] q3.2).bind fun q4 =>
                    (E.2.1 36 [.ref 53, .ref 20, .int x1, .int x2, .int x3] q4.2).bind fun q5 =>
                      (E.2.1 135 [.long q4.1, .long q5.1] q5.2).bind fun q6 =>
                        if (lg_cmp q6.1 0) = 0 then
                          (some (.inl (some (.long 0), q6.2)))
                          else
                          (if x4 = 0 then
                            (zck (!(decide (q6.1 = 0)))
                              (some (.inl (some (.long (q5.1 / q6.1)), q6.2))))
                            else
                            (zck (!(decide (q6.1 = 0)))
                              (some (.inl (some (.long (q4.1 / q6.1)), q6.2))))))))))) := rfl
set_option maxRecDepth 100000 in
set_option maxHeartbeats 4000000 in
theorem e_X7_drawn_0 (E : ZE) (M : ZM) (x1 : Int32) (x2 : Int32) (x3 : Int32) : zrun E tb_X7_drawn cu_X7_drawn 2000 [] 0 [some (.ref 0), some (.int x1), some (.int x2), some (.int x3), none, none, none] [] M =
  (E.1 122 [.ref 0] M).bind fun q1 =>
  if q1.1 = 0 then
    (some (.inl (some (.int (-1000002)), q1.2)))
    else
    (if x1 < 0 then
      (some (.inl (some (.int (-1000001)), q1.2)))
      else
      (if 60 < x1 then
        (some (.inl (some (.int (-1000001)), q1.2)))
        else
        (if x2 < 1 then
          (some (.inl (some (.int (-1000001)), q1.2)))
          else
          (if 999999 < x2 then
            (some (.inl (some (.int (-1000001)), q1.2)))
            else
            ((E.1 128 [.int x3] q1.2).bind fun q2 =>
              if q2.1 = 0 then
                (some (.inl (some (.int (-1000001)), q2.2)))
                else
                ((E.2.2 57 [.ref 27, .ref 20] q2.2).bind fun q3 =>
                  (E.2.2 11 [.ref 53, .ref 20] q3).bind fun q4 =>
                    some (.inr (71, [some (.ref 0), some (.int x1), none, some (.int x3), some (.long (Int32.toInt64 x2)), none, some (.int 0)], [], q4)))))))) := rfl
set_option maxRecDepth 100000 in
set_option maxHeartbeats 4000000 in
theorem e_X7_drawn_71 (E : ZE) (M : ZM) (x1 : Int32) (x3 : Int32) (x4 : Int64) (x6 : Int32) : zrun E tb_X7_drawn cu_X7_drawn 2000 [] 71 [some (.ref 0), some (.int x1), none, some (.int x3), some (.long x4), none, some (.int x6)] [] M =
  if x1 ≤ x6 then
  (if x3 = 0 then
    ((E.1 65 [.ref 27] M).bind fun q1 =>
      some (.inl (some (.int q1.1), q1.2)))
    else
    (some (.inl (some (.int (M.1 27 4)), M))))
  else
  ((E.2.2 132 [.ref 0, .ref 27, .long (zlrem (x4 * 16807) 2147483647)] M).bind fun q2 =>
      some (.inr (71, [some (.ref 0), some (.int x1), none, some (.int x3), some (.long (zlrem (x4 * 16807) 2147483647)), none, some (.int (x6 + 1))], [], q2))) := rfl
set_option maxRecDepth 100000 in
set_option maxHeartbeats 4000000 in
theorem e_X7_image_0 (E : ZE) (M : ZM) (x1 : Int32) : zrun E tb_X7_image cu_X7_image 2000 [] 0 [some (.ref 0), some (.int x1)] [] M =
  (E.1 128 [.int x1] M).bind fun q1 =>
  if q1.1 = 0 then
    (some (.inl (some (.int (-1000001)), q1.2)))
    else
    ((E.1 122 [.ref 0] q1.2).bind fun q2 =>
      if q2.1 = 0 then
        (some (.inl (some (.int (-1000002)), q2.2)))
        else
        (zck (zin x1 2)
          (zck (zis (zel 34 x1.toNatClampNeg) 5 && true)
            ((E.2.2 57 [.ref (zel 34 x1.toNatClampNeg), .ref 20] q2.2).bind fun q3 =>
            some (.inl (some (.int 1), q3)))))) := rfl
set_option maxRecDepth 100000 in
set_option maxHeartbeats 4000000 in
theorem e_X7_restore_0 (E : ZE) (M : ZM) (x1 : Int32) : zrun E tb_X7_restore cu_X7_restore 2000 [] 0 [some (.ref 0), some (.int x1)] [] M =
  (E.1 128 [.int x1] M).bind fun q1 =>
  if q1.1 = 0 then
    (some (.inl (some (.int (-1000001)), q1.2)))
    else
    (zck (zin x1 2)
      (zck (zfi (zel 34 x1.toNatClampNeg) 5 1)
        (if (q1.2.1 (zel 34 x1.toNatClampNeg) 1) = 0 then
          (some (.inl (some (.int (-1000002)), q1.2)))
          else
          (zck (zin x1 2)
            ((E.2.2 131 [.ref 0, .ref (zel 34 x1.toNatClampNeg)] q1.2).bind fun q2 =>
              some (.inl (some (.int 1), q2))))))) := rfl
set_option maxRecDepth 100000 in
set_option maxHeartbeats 4000000 in
theorem e_X7_kind_0 (E : ZE) (M : ZM) (x1 : Int32) : zrun E tb_X7_kind cu_X7_kind 2000 [] 0 [some (.ref 0), some (.int x1)] [] M =
  (E.1 123 [.ref 0, .int x1] M).bind fun q1 =>
  if q1.1 = 0 then
    (some (.inl (some (.int (-1000001)), q1.2)))
    else
    (zck (zin x1 10)
      (some (.inl (some (.int (q1.2.1 22 x1.toNatClampNeg)), q1.2)))) := rfl
set_option maxRecDepth 100000 in
set_option maxHeartbeats 4000000 in
theorem e_X7_as_0 (E : ZE) (M : ZM) (x1 : Int32) (x2 : Int32) : zrun E tb_X7_as cu_X7_as 2000 [] 0 [some (.ref 0), some (.int x1), some (.int x2)] [] M =
  (E.1 123 [.ref 0, .int x1] M).bind fun q1 =>
  if q1.1 = 0 then
    (some (.inl (some (.int (-1000001)), q1.2)))
    else
    (if x2 < 0 then
      (some (.inl (some (.int (-1000001)), q1.2)))
      else
      (if x2 < 6 then
        (zck (zin x1 10)
          ((E.1 2 [.int (q1.2.1 22 x1.toNatClampNeg), .int x2] q1.2).bind fun q2 =>
            if q2.1 = 0 then
              ((E.1 120 [.ref 0, .int 3] q2.2).bind fun q3 =>
                some (.inl (some (.int q3.1), q3.2)))
              else
              ((E.1 121 [.ref 0, .int x1] q2.2).bind fun q4 =>
                some (.inl (some (.int q4.1), q4.2)))))
        else
        (some (.inl (some (.int (-1000001)), q1.2))))) := rfl
set_option maxRecDepth 100000 in
set_option maxHeartbeats 4000000 in
theorem e_X7_ask_0 (E : ZE) (M : ZM) (x1 : Int32) (x2 : Int32) : zrun E tb_X7_ask cu_X7_ask 2000 [] 0 [some (.ref 0), some (.int x1), some (.int x2)] [] M =
  (E.1 123 [.ref 0, .int x1] M).bind fun q1 =>
  if q1.1 = 0 then
    (some (.inl (some (.int (-1000001)), q1.2)))
    else
    ((E.1 128 [.int x2] q1.2).bind fun q2 =>
      if q2.1 = 0 then
        (some (.inl (some (.int (-1000001)), q2.2)))
        else
        ((E.1 4 [.ref 61, .ref 20, .int x1, .int x2] q2.2).bind fun q3 =>
          some (.inl (some (.int q3.1), q3.2)))) := rfl
set_option maxRecDepth 100000 in
set_option maxHeartbeats 4000000 in
theorem e_X7_trace_0 (E : ZE) (M : ZM) (x1 : Int32) : zrun E tb_X7_trace cu_X7_trace 2000 [] 0 [some (.ref 0), some (.int x1)] [] M =
  if x1 < 0 then
  (some (.inl (some (.int (-1000000)), M)))
  else
  (if (M.1 61 1) ≤ x1 then
    (some (.inl (some (.int (-1000000)), M)))
    else
    (zck (zin x1 16)
      (some (.inl (some (.int (M.1 62 x1.toNatClampNeg)), M))))) := rfl
set_option maxRecDepth 100000 in
set_option maxHeartbeats 4000000 in
theorem e_X7_count_0 (E : ZE) (M : ZM) (x1 : Int32) : zrun E tb_X7_count cu_X7_count 2000 [] 0 [some (.ref 0), some (.int x1)] [] M =
  if x1 = 0 then
  ((E.1 130 [.ref 0] M).bind fun q1 =>
    some (.inl (some (.int q1.1), q1.2)))
  else if x1 = 1 then
  (some (.inl (some (.int (M.1 20 1)), M)))
  else if x1 = 2 then
  (some (.inl (some (.int (M.1 20 2)), M)))
  else if x1 = 3 then
  ((E.1 233 [.int (M.1 20 5)] M).bind fun q2 =>
    some (.inl (some (.int q2.1), q2.2)))
  else if x1 = 4 then
  ((E.1 65 [.ref 20] M).bind fun q3 =>
    some (.inl (some (.int q3.1), q3.2)))
  else if x1 = 5 then
  (some (.inl (some (.int (M.1 20 4)), M)))
  else if x1 = 6 then
  (some (.inl (some (.int (M.1 49 4)), M)))
  else if x1 = 7 then
  (some (.inl (some (.int (M.1 18 1)), M)))
  else (some (.inl (some (.int (-1000001)), M))) := rfl
set_option maxRecDepth 100000 in
set_option maxHeartbeats 4000000 in
theorem e_X7_status_0 (E : ZE) (M : ZM) : zrun E tb_X7_status cu_X7_status 2000 [] 0 [some (.ref 0)] [] M =
  some (.inl (some (.int (M.1 0 9)), M)) := rfl
set_option maxRecDepth 100000 in
set_option maxHeartbeats 4000000 in
theorem e_X7_found_0 (E : ZE) (M : ZM) (x1 : Int32) : zrun E tb_X7_found cu_X7_found 2000 [] 0 [some (.ref 0), some (.int x1)] [] M =
  some (.inl (some (.int ((-1000010) - x1)), zw M 0 9 x1)) := rfl
set_option maxRecDepth 100000 in
set_option maxHeartbeats 4000000 in
theorem e_X7_fine_0 (E : ZE) (M : ZM) (x1 : Int32) : zrun E tb_X7_fine cu_X7_fine 2000 [] 0 [some (.ref 0), some (.int x1)] [] M =
  some (.inl (some (.int x1), zw M 0 9 0)) := rfl
set_option maxRecDepth 100000 in
set_option maxHeartbeats 4000000 in
theorem e_X7_isThere_0 (E : ZE) (M : ZM) : zrun E tb_X7_isThere cu_X7_isThere 2000 [] 0 [some (.ref 0)] [] M =
  if (M.1 20 1) ≤ 0 then
  (some (.inl (some (.int 0), M)))
  else
  (some (.inl (some (.int 1), M))) := rfl
set_option maxRecDepth 100000 in
set_option maxHeartbeats 4000000 in
theorem e_X7_isCell_0 (E : ZE) (M : ZM) (x1 : Int32) : zrun E tb_X7_isCell cu_X7_isCell 2000 [] 0 [some (.ref 0), some (.int x1)] [] M =
  if x1 < 0 then
  (some (.inl (some (.int 0), M)))
  else
  (if (M.1 20 1) ≤ x1 then
    (some (.inl (some (.int 0), M)))
    else
    (some (.inl (some (.int 1), M)))) := rfl
set_option maxRecDepth 100000 in
set_option maxHeartbeats 4000000 in
theorem e_X7_areTwoCells_0 (E : ZE) (M : ZM) (x1 : Int32) (x2 : Int32) : zrun E tb_X7_areTwoCells cu_X7_areTwoCells 2000 [] 0 [some (.ref 0), some (.int x1), some (.int x2)] [] M =
  (E.1 123 [.ref 0, .int x1] M).bind fun q1 =>
  if q1.1 = 0 then
    (some (.inl (some (.int 0), q1.2)))
    else
    ((E.1 123 [.ref 0, .int x2] q1.2).bind fun q2 =>
      if q2.1 = 0 then
        (some (.inl (some (.int 0), q2.2)))
        else
        (if x1 = x2 then
          (some (.inl (some (.int 0), q2.2)))
          else
          (some (.inl (some (.int 1), q2.2))))) := rfl
set_option maxRecDepth 100000 in
set_option maxHeartbeats 4000000 in
theorem e_X7_isCustomer_0 (E : ZE) (M : ZM) (x1 : Int32) : zrun E tb_X7_isCustomer cu_X7_isCustomer 2000 [] 0 [some (.ref 0), some (.int x1)] [] M =
  if x1 < 0 then
  (some (.inl (some (.int 0), M)))
  else
  (if (M.1 20 2) ≤ x1 then
    (some (.inl (some (.int 0), M)))
    else
    (some (.inl (some (.int 1), M)))) := rfl
set_option maxRecDepth 100000 in
set_option maxHeartbeats 4000000 in
theorem e_X7_isRow_0 (E : ZE) (M : ZM) (x0 : Int32) : zrun E tb_X7_isRow cu_X7_isRow 2000 [] 0 [some (.int x0)] [] M =
  if x0 < 0 then
  (some (.inl (some (.int 0), M)))
  else
  (if 8 ≤ x0 then
    (some (.inl (some (.int 0), M)))
    else
    (some (.inl (some (.int 1), M)))) := rfl
set_option maxRecDepth 100000 in
set_option maxHeartbeats 4000000 in
theorem e_X7_isFigure_0 (E : ZE) (M : ZM) (x0 : Int32) : zrun E tb_X7_isFigure cu_X7_isFigure 2000 [] 0 [some (.int x0)] [] M =
  if x0 < 0 then
  (some (.inl (some (.int 0), M)))
  else
  (if 9 < x0 then
    (some (.inl (some (.int 0), M)))
    else
    (some (.inl (some (.int 1), M)))) := rfl
set_option maxRecDepth 100000 in
set_option maxHeartbeats 4000000 in
theorem e_X7_isEither_0 (E : ZE) (M : ZM) (x0 : Int32) : zrun E tb_X7_isEither cu_X7_isEither 2000 [] 0 [some (.int x0)] [] M =
  if x0 = 0 then
  (some (.inl (some (.int 1), M)))
  else
  (if x0 = 1 then
    (some (.inl (some (.int 1), M)))
    else
    (some (.inl (some (.int 0), M)))) := rfl
set_option maxRecDepth 100000 in
set_option maxHeartbeats 4000000 in
theorem e_X7_areRowsOf_0 (E : ZE) (M : ZM) (x0 : Int32) (x1 : Int32) (x2 : Int32) : zrun E tb_X7_areRowsOf cu_X7_areRowsOf 2000 [] 0 [some (.int x0), some (.int x1), some (.int x2)] [] M =
  (E.1 126 [.int x0] M).bind fun q1 =>
  if q1.1 = 0 then
    (some (.inl (some (.int 0), q1.2)))
    else
    ((E.1 126 [.int x1] q1.2).bind fun q2 =>
      if q2.1 = 0 then
        (some (.inl (some (.int 0), q2.2)))
        else
        (if x2 < 1 then
          (some (.inl (some (.int 0), q2.2)))
          else
          (if 10 < x2 then
            (some (.inl (some (.int 0), q2.2)))
            else
            (some (.inl (some (.int 1), q2.2)))))) := rfl
set_option maxRecDepth 100000 in
set_option maxHeartbeats 4000000 in
theorem e_X7_countRows_0 (E : ZE) (M : ZM) : zrun E tb_X7_countRows cu_X7_countRows 2000 [] 0 [some (.ref 0), none, none] [] M =
  some (.inr (4, [some (.ref 0), some (.int 0), some (.int 0)], [], M)) := rfl
set_option maxRecDepth 100000 in
set_option maxHeartbeats 4000000 in
theorem e_X7_countRows_4 (E : ZE) (M : ZM) (x1 : Int32) (x2 : Int32) : zrun E tb_X7_countRows cu_X7_countRows 2000 [] 4 [some (.ref 0), some (.int x1), some (.int x2)] [] M =
  if 8 ≤ x2 then
  (some (.inl (some (.int x1), M)))
  else
  (zck (zin x2 8)
    (zck (zfi (zel 1 x2.toNatClampNeg) 4 1)
      (if (M.1 (zel 1 x2.toNatClampNeg) 1) = 0 then
        (some (.inr (4, [some (.ref 0), some (.int (x1 + 0)), some (.int (x2 + 1))], [], M)))
        else
        (some (.inr (4, [some (.ref 0), some (.int (x1 + 1)), some (.int (x2 + 1))], [], M)))))) := rfl
set_option maxRecDepth 100000 in
set_option maxHeartbeats 4000000 in
theorem e_X7_putInPlace_0 (E : ZE) (M : ZM) (b1 : Nat) (hb1 : zsx b1) : zrun E tb_X7_putInPlace cu_X7_putInPlace 2000 [] 0 [some (.ref 0), some (.ref b1)] [] M =
  (E.2.2 57 [.ref 20, .ref b1] M).bind fun q1 =>
  (E.2.2 9 [.ref 53, .ref 20] q1).bind fun q2 =>
    some (.inl (none, zw q2 49 4 0)) := by
  rcases hb1 with rfl | rfl | rfl <;> rfl
set_option maxRecDepth 100000 in
set_option maxHeartbeats 4000000 in
theorem e_X7_liveDay_0 (E : ZE) (M : ZM) (b1 : Nat) (hb1 : zsh b1) (x2 : Int64) : zrun E tb_X7_liveDay cu_X7_liveDay 2000 [] 0 [some (.ref 0), some (.ref b1), some (.long x2), none, none, none] [] M =
  if (M.1 b1 2) = 0 then
  ((E.1 133 [.long x2, .int (M.1 b1 1)] M).bind fun q1 =>
    (E.1 61 [.ref b1, .int q1.1] q1.2).bind fun q2 =>
      if q2.1 = 0 then
        (some (.inl (none, q2.2)))
        else
        ((E.2.2 60 [.ref b1, .int q1.1] q2.2).bind fun q3 =>
          some (.inl (none, q3))))
  else
  (if (lg_cmp (zlrem x2 3) 0) = 0 then
      ((E.1 133 [.long x2, .int (M.1 b1 1)] M).bind fun q10 =>
        (E.1 61 [.ref b1, .int q10.1] q10.2).bind fun q11 =>
          if q11.1 = 0 then
            (some (.inl (none, q11.2)))
            else
            ((E.2.2 60 [.ref b1, .int q10.1] q11.2).bind fun q12 =>
              some (.inl (none, q12))))
      else
      ((E.1 133 [.long x2, .int (M.1 b1 2)] M).bind fun q4 =>
        (E.1 63 [.ref b1, .int q4.1] q4.2).bind fun q5 =>
          if q5.1 = 0 then
            ((E.1 21 [.ref 53, .ref b1, .int q4.1] q5.2).bind fun q6 =>
              if q6.1 = 0 then
                (some (.inl (none, q6.2)))
                else
                ((E.1 70 [.ref b1, .int q6.1] q6.2).bind fun q7 =>
                  (E.2.2 58 [.ref b1, .int q4.1, .int q6.1, .int q7.1] q7.2).bind fun q8 =>
                    some (.inl (none, q8))))
            else
            ((E.2.2 59 [.ref b1, .int q4.1] q5.2).bind fun q9 =>
              some (.inl (none, q9))))) := by
  rcases hb1 with rfl | rfl <;> rfl
set_option maxRecDepth 100000 in
set_option maxHeartbeats 4000000 in
theorem e_X7_restBy_0 (E : ZE) (M : ZM) (x0 : Int64) (x2 : Int32) : zrun E tb_X7_restBy cu_X7_restBy 2000 [] 0 [some (.long x0), none, some (.int x2)] [] M =
  if x2 ≤ 0 then
  (some (.inl (some (.int 0), M)))
  else
  (zck (!(decide (Int32.toInt64 x2 = 0)))
    (some (.inl (some (.int (Int64.toInt32 (zlrem x0 (Int32.toInt64 x2)))), M)))) := rfl
set_option maxRecDepth 100000 in
set_option maxHeartbeats 4000000 in
theorem e_X7_powerOf_0 (E : ZE) (M : ZM) (x0 : Int64) (x2 : Int32) : zrun E tb_X7_powerOf cu_X7_powerOf 2000 [] 0 [some (.long x0), none, some (.int x2), none, none, none] [] M =
  some (.inr (5, [some (.long x0), none, some (.int x2), some (.long 1), none, some (.int 0)], [], M)) := rfl
set_option maxRecDepth 100000 in
set_option maxHeartbeats 4000000 in
theorem e_X7_powerOf_5 (E : ZE) (M : ZM) (x0 : Int64) (x2 : Int32) (x3 : Int64) (x5 : Int32) : zrun E tb_X7_powerOf cu_X7_powerOf 2000 [] 5 [some (.long x0), none, some (.int x2), some (.long x3), none, some (.int x5)] [] M =
  if x2 ≤ x5 then
  (some (.inl (some (.long x3), M)))
  else
  (some (.inr (5, [some (.long x0), none, some (.int x2), some (.long (x3 * x0)), none, some (.int (x5 + 1))], [], M))) := rfl
set_option maxRecDepth 100000 in
set_option maxHeartbeats 4000000 in
theorem e_X7_commonDivisor_0 (E : ZE) (M : ZM) (x0 : Int64) (x2 : Int64) : zrun E tb_X7_commonDivisor cu_X7_commonDivisor 2000 [] 0 [some (.long x0), none, some (.long x2), none, none, none, none, none, none, none, none] [] M =
  some (.inr (9, [none, none, none, none, some (.long x2), none, some (.long x0), none, some (.int 0), none, none], [], M)) := rfl
set_option maxRecDepth 100000 in
set_option maxHeartbeats 4000000 in
theorem e_X7_commonDivisor_9 (E : ZE) (M : ZM) (x4 : Int64) (x6 : Int64) (x8 : Int32) : zrun E tb_X7_commonDivisor cu_X7_commonDivisor 2000 [] 9 [none, none, none, none, some (.long x4), none, some (.long x6), none, some (.int x8), none, none] [] M =
  if 100 ≤ x8 then
  (some (.inl (some (.long x6), M)))
  else
  (if (lg_cmp x4 0) = 0 then
    (some (.inl (some (.long x6), M)))
    else
    (zck (!(decide (x4 = 0)))
      (some (.inr (9, [none, none, none, none, some (.long (zlrem x6 x4)), none, some (.long x4), none, some (.int (x8 + 1)), none, none], [], M))))) := rfl
set_option maxRecDepth 100000 in
set_option maxHeartbeats 4000000 in
theorem e_X7_takeTold_0 (E : ZE) (M : ZM) (x1 : Int32) (x2 : Int32) (x3 : Int32) (x4 : Int32) (x5 : Int32) : zrun E tb_X7_takeTold cu_X7_takeTold 2000 [] 0 [some (.ref 0), some (.int x1), some (.int x2), some (.int x3), some (.int x4), some (.int x5), none, none] [] M =
  zck (zin x1 8)
  (zck (zfi (zel 1 x1.toNatClampNeg) 4 1)
    (if (M.1 (zel 1 x1.toNatClampNeg) 1) = 0 then
      (some (.inl (some (.int 1), M)))
      else
      (zck (zis (zel 1 x1.toNatClampNeg) 4 && true)
        ((E.1 51 [.ref (zel 1 x1.toNatClampNeg), .int x2, .int x5] M).bind fun q1 =>
        if q1.1 = 0 then
          (some (.inl (some (.int 2), q1.2)))
          else
          ((E.1 77 [.ref 63, .ref (zel 1 x1.toNatClampNeg), .int x2, .int x5, .int (q1.2.1 20 1)] q1.2).bind fun q2 =>
            if q2.1 = 0 then
              (some (.inl (some (.int 3), q2.2)))
              else
              (zck (zin x3 8)
                (zck (zfi (zel 1 x3.toNatClampNeg) 4 1)
                  (if (q2.2.1 (zel 1 x3.toNatClampNeg) 1) = 0 then
                    (some (.inl (some (.int 1), q2.2)))
                    else
                    (zck (zis (zel 1 x3.toNatClampNeg) 4 && true)
                      ((E.1 51 [.ref (zel 1 x3.toNatClampNeg), .int x4, .int x5] q2.2).bind fun q3 =>
                      if q3.1 = 0 then
                        (some (.inl (some (.int 2), q3.2)))
                        else
                        ((E.2.2 78 [.ref 63, .ref (zel 1 x3.toNatClampNeg), .int x4] q3.2).bind fun q4 =>
                          some (.inl (some (.int 0), q4))))))))))))) := rfl
set_option maxRecDepth 100000 in
set_option maxHeartbeats 4000000 in
theorem e_X7_kindsThatFit_0 (E : ZE) (M : ZM) (x1 : Int32) : zrun E tb_X7_kindsThatFit cu_X7_kindsThatFit 2000 [] 0 [some (.ref 0), some (.int x1), none, none] [] M =
  (E.2.2 57 [.ref 27, .ref 20] M).bind fun q1 =>
  some (.inr (15, [some (.ref 0), some (.int x1), some (.int 0), some (.int 1)], [], q1)) := rfl
set_option maxRecDepth 100000 in
set_option maxHeartbeats 4000000 in
theorem e_X7_kindsThatFit_15 (E : ZE) (M : ZM) (x1 : Int32) (x2 : Int32) (x3 : Int32) : zrun E tb_X7_kindsThatFit cu_X7_kindsThatFit 2000 [] 15 [some (.ref 0), some (.int x1), some (.int x2), some (.int x3)] [] M =
  if 6 ≤ x3 then
  (some (.inl (some (.int x2), M)))
  else
  (zck (zin x1 10)
    ((E.2.2 55 [.ref 27, .int x1, .int x3, .int (M.1 23 x1.toNatClampNeg)] M).bind fun q1 =>
      (E.1 79 [.ref 63, .ref 27] q1).bind fun q2 =>
        if q2.1 = 0 then
          (some (.inr (15, [some (.ref 0), some (.int x1), some (.int (x2 ||| 0)), some (.int (x3 + 1))], [], q2.2)))
          else
          (some (.inr (15, [some (.ref 0), some (.int x1), some (.int (x2 ||| (zshl 1 x3))), some (.int (x3 + 1))], [], q2.2))))) := rfl
set_option maxRecDepth 100000 in
set_option maxHeartbeats 4000000 in
theorem e_X7_valuesThatFit_0 (E : ZE) (M : ZM) (x1 : Int32) : zrun E tb_X7_valuesThatFit cu_X7_valuesThatFit 2000 [] 0 [some (.ref 0), some (.int x1), none, none] [] M =
  (E.2.2 57 [.ref 27, .ref 20] M).bind fun q1 =>
  some (.inr (15, [some (.ref 0), some (.int x1), some (.int 0), some (.int 0)], [], q1)) := rfl
set_option maxRecDepth 100000 in
set_option maxHeartbeats 4000000 in
theorem e_X7_valuesThatFit_15 (E : ZE) (M : ZM) (x1 : Int32) (x2 : Int32) (x3 : Int32) : zrun E tb_X7_valuesThatFit cu_X7_valuesThatFit 2000 [] 15 [some (.ref 0), some (.int x1), some (.int x2), some (.int x3)] [] M =
  if 9 < x3 then
  (some (.inl (some (.int x2), M)))
  else
  (zck (zin x1 10)
    ((E.1 79 [.ref 63, .ref 27] (zw M 30 x1.toNatClampNeg x3)).bind fun q1 =>
      if q1.1 = 0 then
        (some (.inr (15, [some (.ref 0), some (.int x1), some (.int (x2 ||| 0)), some (.int (x3 + 1))], [], q1.2)))
        else
        (some (.inr (15, [some (.ref 0), some (.int x1), some (.int (x2 ||| (zshl 1 x3))), some (.int (x3 + 1))], [], q1.2))))) := rfl
set_option maxRecDepth 100000 in
set_option maxHeartbeats 4000000 in
theorem e_X7_oversThatFit_0 (E : ZE) (M : ZM) : zrun E tb_X7_oversThatFit cu_X7_oversThatFit 2000 [] 0 [some (.ref 0), none, none] [] M =
  (E.2.2 57 [.ref 27, .ref 20] M).bind fun q1 =>
  some (.inr (15, [some (.ref 0), some (.int 0), some (.int 0)], [], q1)) := rfl
set_option maxRecDepth 100000 in
set_option maxHeartbeats 4000000 in
theorem e_X7_oversThatFit_15 (E : ZE) (M : ZM) (x1 : Int32) (x2 : Int32) : zrun E tb_X7_oversThatFit cu_X7_oversThatFit 2000 [] 15 [some (.ref 0), some (.int x1), some (.int x2)] [] M =
  if 9 < x2 then
  (some (.inl (some (.int x1), M)))
  else
  ((E.1 79 [.ref 63, .ref 27] (zw M 27 3 x2)).bind fun q1 =>
      if q1.1 = 0 then
        (some (.inr (15, [some (.ref 0), some (.int (x1 ||| 0)), some (.int (x2 + 1))], [], q1.2)))
        else
        (some (.inr (15, [some (.ref 0), some (.int (x1 ||| (zshl 1 x2))), some (.int (x2 + 1))], [], q1.2)))) := rfl
set_option maxRecDepth 100000 in
set_option maxHeartbeats 4000000 in
theorem e_X7_countSwaps_0 (E : ZE) (M : ZM) : zrun E tb_X7_countSwaps cu_X7_countSwaps 2000 [] 0 [some (.ref 0), none, none, none] [] M =
  some (.inr (4, [some (.ref 0), some (.int 0), some (.int 0), none], [], M)) := rfl
set_option maxRecDepth 100000 in
set_option maxHeartbeats 4000000 in
theorem e_X7_countSwaps_4 (E : ZE) (M : ZM) (x1 : Int32) (x2 : Int32) : zrun E tb_X7_countSwaps cu_X7_countSwaps 2000 [] 4 [some (.ref 0), some (.int x1), some (.int x2), none] [] M =
  if (M.1 20 1) ≤ x2 then
  (some (.inl (some (.int x1), M)))
  else
  (some (.inr (19, [some (.ref 0), some (.int x1), some (.int x2), some (.int (x2 + 1))], [], M))) := rfl
set_option maxRecDepth 100000 in
set_option maxHeartbeats 4000000 in
theorem e_X7_countSwaps_19 (E : ZE) (M : ZM) (x1 : Int32) (x2 : Int32) (x3 : Int32) : zrun E tb_X7_countSwaps cu_X7_countSwaps 2000 [] 19 [some (.ref 0), some (.int x1), some (.int x2), some (.int x3)] [] M =
  if (M.1 20 1) ≤ x3 then
  (some (.inr (4, [some (.ref 0), some (.int x1), some (.int (x2 + 1)), none], [], M)))
  else
  ((E.1 142 [.ref 0, .int x2, .int x3] M).bind fun q1 =>
    if q1.1 = 0 then
      (some (.inr (19, [some (.ref 0), some (.int (x1 + 0)), some (.int x2), some (.int (x3 + 1))], [], q1.2)))
      else
      (some (.inr (19, [some (.ref 0), some (.int (x1 + 1)), some (.int x2), some (.int (x3 + 1))], [], q1.2)))) := rfl
set_option maxRecDepth 100000 in
set_option maxHeartbeats 4000000 in
theorem e_X7_firstSwap_0 (E : ZE) (M : ZM) : zrun E tb_X7_firstSwap cu_X7_firstSwap 2000 [] 0 [some (.ref 0), none, none] [] M =
  some (.inr (2, [some (.ref 0), some (.int 0), none], [], M)) := rfl
set_option maxRecDepth 100000 in
set_option maxHeartbeats 4000000 in
theorem e_X7_firstSwap_2 (E : ZE) (M : ZM) (x1 : Int32) : zrun E tb_X7_firstSwap cu_X7_firstSwap 2000 [] 2 [some (.ref 0), some (.int x1), none] [] M =
  if (M.1 20 1) ≤ x1 then
  (some (.inl (some (.int (-1000000)), M)))
  else
  (some (.inr (17, [some (.ref 0), some (.int x1), some (.int (x1 + 1))], [], M))) := rfl
set_option maxRecDepth 100000 in
set_option maxHeartbeats 4000000 in
theorem e_X7_firstSwap_17 (E : ZE) (M : ZM) (x1 : Int32) (x2 : Int32) : zrun E tb_X7_firstSwap cu_X7_firstSwap 2000 [] 17 [some (.ref 0), some (.int x1), some (.int x2)] [] M =
  if (M.1 20 1) ≤ x2 then
  (some (.inr (2, [some (.ref 0), some (.int (x1 + 1)), none], [], M)))
  else
  ((E.1 142 [.ref 0, .int x1, .int x2] M).bind fun q1 =>
    if q1.1 = 0 then
      (some (.inr (17, [some (.ref 0), some (.int x1), some (.int (x2 + 1))], [], q1.2)))
      else
      (some (.inl (some (.int ((10 * x1) + x2)), q1.2)))) := rfl
set_option maxRecDepth 100000 in
set_option maxHeartbeats 4000000 in
theorem e_X7_fitsSwapped_0 (E : ZE) (M : ZM) (x1 : Int32) (x2 : Int32) : zrun E tb_X7_fitsSwapped cu_X7_fitsSwapped 2000 [] 0 [some (.ref 0), some (.int x1), some (.int x2)] [] M =
  (E.2.2 57 [.ref 27, .ref 20] M).bind fun q1 =>
  zck (zin x2 10)
    (zck (zin x2 10)
      ((E.2.2 55 [.ref 27, .int x1, .int (q1.1 22 x2.toNatClampNeg), .int (q1.1 23 x2.toNatClampNeg)] q1).bind fun q2 =>
        zck (zin x1 10)
          (zck (zin x1 10)
            ((E.2.2 55 [.ref 27, .int x2, .int (q2.1 22 x1.toNatClampNeg), .int (q2.1 23 x1.toNatClampNeg)] q2).bind fun q3 =>
              (E.1 79 [.ref 63, .ref 27] q3).bind fun q4 =>
                zck (zb01 q4.1)
                  (some (.inl (some (.int q4.1), q4.2))))))) := rfl

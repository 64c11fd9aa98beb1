/-! The methods by number: names, codes; words of the tables that their operations need -/
def zMTl : List ZT := [(yX0_keep, cX0_keep, 4, none),
  (yX0_takeBackLatest, cX0_takeBackLatest, 3, none),
  (yX1_isAlso, cX1_isAlso, 4, (some .boolean)),
  (yX1_above, cX1_above, 1, (some .int)),
  (yX1_answer, cX1_answer, 4, (some .int)),
  (yX1_bodyFor, cX1_bodyFor, 5, (some .int)),
  (yX1_bodyTold, cX1_bodyTold, 2, (some .int)),
  (yX1_body, cX1_body, 4, (some .int)),
  (yX1_leave, cX1_leave, 2, none),
  (yX2_learn, cX2_learn, 4, none),
  (yX2_hangsByOneLess, cX2_hangsByOneLess, 5, (some .boolean)),
  (yX2_weigh, cX2_weigh, 3, none),
  (yX2_isPiece, cX2_isPiece, 3, (some .boolean)),
  (yX2_couldServe, cX2_couldServe, 4, (some .boolean)),
  (yX2_countAll, cX2_countAll, 4, (some .int)),
  (yX2_countOf, cX2_countOf, 7, (some .int)),
  (yX2_isStraight, cX2_isStraight, 7, (some .boolean)),
  (yX2_markSums, cX2_markSums, 3, none),
  (yX2_countSums, cX2_countSums, 3, (some .int)),
  (yX2_leastSumUnpaid, cX2_leastSumUnpaid, 2, (some .int)),
  (yX2_greatestSum, cX2_greatestSum, 4, (some .int)),
  (yX2_bestFor, cX2_bestFor, 7, (some .int)),
  (yX2_rankOf, cX2_rankOf, 2, (some .int)),
  (yX2_countFor, cX2_countFor, 5, (some .int)),
  (yX2_cheapestFor, cX2_cheapestFor, 7, (some .int)),
  (yX2_mostServed, cX2_mostServed, 4, (some .int)),
  (yX2_findSuited, cX2_findSuited, 3, none),
  (yX2_suitedBy, cX2_suitedBy, 5, (some .int)),
  (yX2_findServable, cX2_findServable, 3, none),
  (yX2_servableBy, cX2_servableBy, 7, (some .int)),
  (yX2_withOneMore, cX2_withOneMore, 4, (some .int)),
  (yX2_canServe, cX2_canServe, 3, (some .boolean)),
  (yX2_pieceAmongServed, cX2_pieceAmongServed, 8, (some .int)),
  (yX2_firstPieceLeaving, cX2_firstPieceLeaving, 6, (some .int)),
  (yX2_countCouplings, cX2_countCouplings, 6, (some .int)),
  (yX2_sideOf, cX2_sideOf, 10, (some .int)),
  (yX2_casesOfFewLost, cX2_casesOfFewLost, 9, (some .long)),
  (yX2_addStamp, cX2_addStamp, 6, none),
  (yX3_append, cX3_append, 2, (some .boolean)),
  (yX3_read, cX3_read, 3, (some .boolean)),
  (yX3_readLaw, cX3_readLaw, 5, (some .boolean)),
  (yX3_readStamps, cX3_readStamps, 5, (some .boolean)),
  (yX3_readCustomers, cX3_readCustomers, 5, (some .boolean)),
  (yX3_kindOfSort, cX3_kindOfSort, 1, (some .int)),
  (yX3_takes, cX3_takes, 2, (some .boolean)),
  (yX3_takeNumber, cX3_takeNumber, 4, (some .int)),
  (yX3_refuse, cX3_refuse, 2, (some .boolean)),
  (yX3_step, cX3_step, 2, none),
  (yX3_stepOverNumber, cX3_stepOverNumber, 1, none),
  (yX3_isFigureSign, cX3_isFigureSign, 1, (some .boolean)),
  (yX4_begin, cX4_begin, 3, none),
  (yX4_reaches, cX4_reaches, 3, (some .boolean)),
  (yX4_put, cX4_put, 3, (some .int)),
  (yX5_begin, cX5_begin, 5, none),
  (yX5_findNext, cX5_findNext, 3, (some .int)),
  (yX5_put, cX5_put, 4, none),
  (yX5_add, cX5_add, 3, none),
  (yX5_become, cX5_become, 2, none),
  (yX5_sell, cX5_sell, 4, none),
  (yX5_takeBack, cX5_takeBack, 2, none),
  (yX5_lose, cX5_lose, 2, none),
  (yX5_isOn, cX5_isOn, 2, (some .boolean)),
  (yX5_holds, cX5_holds, 2, (some .boolean)),
  (yX5_isServed, cX5_isServed, 2, (some .boolean)),
  (yX5_suits, cX5_suits, 3, (some .boolean)),
  (yX5_served, cX5_served, 3, (some .int)),
  (yX5_howIs, cX5_howIs, 2, (some .int)),
  (yX5_ownerOf, cX5_ownerOf, 3, (some .int)),
  (yX5_paysOf, cX5_paysOf, 4, (some .int)),
  (yX5_payOfStamp, cX5_payOfStamp, 3, (some .int)),
  (yX5_tearsOf, cX5_tearsOf, 4, (some .int)),
  (yX5_nextTo, cX5_nextTo, 4, (some .int)),
  (yX5_partAround, cX5_partAround, 5, (some .int)),
  (yX5_countParts, cX5_countParts, 4, (some .int)),
  (yX5_partNumber, cX5_partNumber, 5, (some .int)),
  (yX5_stepsBetween, cX5_stepsBetween, 5, (some .int)),
  (yX5_firstStep, cX5_firstStep, 6, (some .int)),
  (yX6_takeCells, cX6_takeCells, 8, (some .boolean)),
  (yX6_takePays, cX6_takePays, 4, none),
  (yX6_isSo, cX6_isSo, 4, (some .boolean)),
  (yX7_row, cX7_row, 4, (some .int)),
  (yX7_set, cX7_set, 4, (some .int)),
  (yX7_copy, cX7_copy, 8, (some .int)),
  (yX7_drop, cX7_drop, 2, (some .int)),
  (yX7_feed, cX7_feed, 2, (some .int)),
  (yX7_sheet, cX7_sheet, 1, (some .int)),
  (yX7_fault, cX7_fault, 1, (some .int)),
  (yX7_undo, cX7_undo, 1, (some .int)),
  (yX7_serve, cX7_serve, 4, (some .int)),
  (yX7_bringBack, cX7_bringBack, 3, (some .int)),
  (yX7_spoil, cX7_spoil, 2, (some .int)),
  (yX7_value, cX7_value, 4, (some .int)),
  (yX7_over, cX7_over, 3, (some .int)),
  (yX7_cell, cX7_cell, 3, (some .int)),
  (yX7_customer, cX7_customer, 3, (some .int)),
  (yX7_stand, cX7_stand, 2, (some .int)),
  (yX7_piece, cX7_piece, 3, (some .int)),
  (yX7_parts, cX7_parts, 2, (some .int)),
  (yX7_pieces, cX7_pieces, 3, (some .int)),
  (yX7_sums, cX7_sums, 2, (some .int)),
  (yX7_best, cX7_best, 4, (some .int)),
  (yX7_ways, cX7_ways, 2, (some .int)),
  (yX7_thrift, cX7_thrift, 4, (some .int)),
  (yX7_serving, cX7_serving, 3, (some .int)),
  (yX7_couples, cX7_couples, 1, (some .int)),
  (yX7_parting, cX7_parting, 5, (some .int)),
  (yX7_way, cX7_way, 4, (some .int)),
  (yX7_lone, cX7_lone, 4, (some .int)),
  (yX7_who, cX7_who, 9, (some .int)),
  (yX7_fits, cX7_fits, 8, (some .int)),
  (yX7_wrong, cX7_wrong, 11, (some .long)),
  (yX7_drawn, cX7_drawn, 7, (some .int)),
  (yX7_image, cX7_image, 2, (some .int)),
  (yX7_restore, cX7_restore, 2, (some .int)),
  (yX7_kind, cX7_kind, 2, (some .int)),
  (yX7_as, cX7_as, 3, (some .int)),
  (yX7_ask, cX7_ask, 3, (some .int)),
  (yX7_trace, cX7_trace, 2, (some .int)),
  (yX7_count, cX7_count, 2, (some .int)),
  (yX7_status, cX7_status, 1, (some .int)),
  (yX7_found, cX7_found, 2, (some .int)),
  (yX7_fine, cX7_fine, 2, (some .int)),
  (yX7_isThere, cX7_isThere, 1, (some .boolean)),
  (yX7_isCell, cX7_isCell, 2, (some .boolean)),
  (yX7_areTwoCells, cX7_areTwoCells, 3, (some .boolean)),
  (yX7_isCustomer, cX7_isCustomer, 2, (some .boolean)),
  (yX7_isRow, cX7_isRow, 1, (some .boolean)),
  (yX7_isFigure, cX7_isFigure, 1, (some .boolean)),
  (yX7_isEither, cX7_isEither, 1, (some .boolean)),
  (yX7_areRowsOf, cX7_areRowsOf, 3, (some .boolean)),
  (yX7_countRows, cX7_countRows, 3, (some .int)),
  (yX7_putInPlace, cX7_putInPlace, 2, none),
  (yX7_liveDay, cX7_liveDay, 6, none),
  (yX7_restBy, cX7_restBy, 3, (some .int)),
  (yX7_powerOf, cX7_powerOf, 6, (some .long)),
  (yX7_commonDivisor, cX7_commonDivisor, 11, (some .long)),
  (yX7_takeTold, cX7_takeTold, 8, (some .int)),
  (yX7_kindsThatFit, cX7_kindsThatFit, 4, (some .int)),
  (yX7_valuesThatFit, cX7_valuesThatFit, 4, (some .int)),
  (yX7_oversThatFit, cX7_oversThatFit, 3, (some .int)),
  (yX7_countSwaps, cX7_countSwaps, 4, (some .int)),
  (yX7_firstSwap, cX7_firstSwap, 3, (some .int)),
  (yX7_fitsSwapped, cX7_fitsSwapped, 3, (some .boolean)),
  (yX8_in, cX8_in, 3, (some .boolean)),
  (yX8_has, cX8_has, 2, (some .boolean)),
  (yX8_ones, cX8_ones, 3, (some .int)),
  (yX8_isRow, cX8_isRow, 1, (some .boolean)),
  (yX8_finds, cX8_finds, 2, (some .int)),
  (yX8_row, cX8_row, 5, (some .int)),
  (yX8_set, cX8_set, 5, (some .int)),
  (yX8_isPlace, cX8_isPlace, 4, (some .boolean)),
  (yX8_copy, cX8_copy, 7, (some .int)),
  (yX8_drop, cX8_drop, 3, (some .int)),
  (yX8_feed, cX8_feed, 2, (some .int)),
  (yX8_byteAt, cX8_byteAt, 2, (some .int)),
  (yX8_isFigure, cX8_isFigure, 1, (some .boolean)),
  (yX8_wrongs, cX8_wrongs, 2, (some .boolean)),
  (yX8_takes, cX8_takes, 2, (some .boolean)),
  (yX8_number, cX8_number, 5, (some .boolean)),
  (yX8_kindBy, cX8_kindBy, 1, (some .int)),
  (yX8_readsLaw, cX8_readsLaw, 2, (some .boolean)),
  (yX8_readsStamp, cX8_readsStamp, 3, (some .boolean)),
  (yX8_readsCustomer, cX8_readsCustomer, 2, (some .boolean)),
  (yX8_reads, cX8_reads, 2, (some .boolean)),
  (yX8_joins, cX8_joins, 5, none),
  (yX8_sheet, cX8_sheet, 3, (some .int)),
  (yX8_fault, cX8_fault, 1, (some .int)),
  (yX8_keeps, cX8_keeps, 2, none),
  (yX8_undo, cX8_undo, 2, (some .int)),
  (yX8_isCell, cX8_isCell, 2, (some .boolean)),
  (yX8_isCustomer, cX8_isCustomer, 2, (some .boolean)),
  (yX8_gone, cX8_gone, 3, (some .int)),
  (yX8_on, cX8_on, 1, (some .int)),
  (yX8_servedNow, cX8_servedNow, 3, (some .int)),
  (yX8_reach, cX8_reach, 6, (some .int)),
  (yX8_lowest, cX8_lowest, 2, (some .int)),
  (yX8_hangs, cX8_hangs, 2, (some .boolean)),
  (yX8_isPiece, cX8_isPiece, 2, (some .boolean)),
  (yX8_pays, cX8_pays, 8, (some .int)),
  (yX8_tears, cX8_tears, 4, (some .int)),
  (yX8_serves, cX8_serves, 3, none),
  (yX8_serve, cX8_serve, 4, (some .int)),
  (yX8_bringBack, cX8_bringBack, 3, (some .int)),
  (yX8_spoil, cX8_spoil, 2, (some .int)),
  (yX8_value, cX8_value, 4, (some .int)),
  (yX8_over, cX8_over, 3, (some .int)),
  (yX8_ownerOf, cX8_ownerOf, 4, (some .int)),
  (yX8_cell, cX8_cell, 3, (some .int)),
  (yX8_customer, cX8_customer, 3, (some .int)),
  (yX8_stand, cX8_stand, 2, (some .int)),
  (yX8_partOf, cX8_partOf, 5, (some .int)),
  (yX8_manyParts, cX8_manyParts, 3, (some .int)),
  (yX8_piece, cX8_piece, 3, (some .int)),
  (yX8_parts, cX8_parts, 3, (some .int)),
  (yX8_surveys, cX8_surveys, 2, none),
  (yX8_paysBy, cX8_paysBy, 2, (some .int)),
  (yX8_isStraight, cX8_isStraight, 6, (some .boolean)),
  (yX8_pieces, cX8_pieces, 6, (some .int)),
  (yX8_sums, cX8_sums, 11, (some .int)),
  (yX8_fitsFor, cX8_fitsFor, 3, (some .boolean)),
  (yX8_bestFor, cX8_bestFor, 5, (some .int)),
  (yX8_best, cX8_best, 4, (some .int)),
  (yX8_ways, cX8_ways, 4, (some .int)),
  (yX8_thrift, cX8_thrift, 5, (some .int)),
  (yX8_serveAll, cX8_serveAll, 15, none),
  (yX8_can, cX8_can, 3, (some .boolean)),
  (yX8_serving, cX8_serving, 9, (some .int)),
  (yX8_couples, cX8_couples, 7, (some .int)),
  (yX8_parting, cX8_parting, 8, (some .int)),
  (yX8_stepsOf, cX8_stepsOf, 7, (some .int)),
  (yX8_way, cX8_way, 6, (some .int)),
  (yX8_lone, cX8_lone, 4, (some .int)),
  (yX8_findingOf, cX8_findingOf, 9, (some .int)),
  (yX8_isSo, cX8_isSo, 9, (some .boolean)),
  (yX8_who, cX8_who, 13, (some .int)),
  (yX8_swaps, cX8_swaps, 5, none),
  (yX8_fits, cX8_fits, 15, (some .int)),
  (yX8_wrong, cX8_wrong, 15, (some .long)),
  (yX8_day, cX8_day, 6, none),
  (yX8_drawn, cX8_drawn, 8, (some .int)),
  (yX8_image, cX8_image, 3, (some .int)),
  (yX8_restore, cX8_restore, 3, (some .int)),
  (yX8_kind, cX8_kind, 2, (some .int)),
  (yX8_as, cX8_as, 5, (some .int)),
  (yX8_leaves, cX8_leaves, 2, none),
  (yX8_markLow, cX8_markLow, 4, (some .int)),
  (yX8_sizeHigh, cX8_sizeHigh, 4, (some .int)),
  (yX8_ask, cX8_ask, 5, (some .int)),
  (yX8_trace, cX8_trace, 2, (some .int)),
  (yX8_count, cX8_count, 4, (some .int)),
  (yX8_status, cX8_status, 1, (some .int)),
  (yJ6_lowestOneBit_0f7a4, cJ6_lowestOneBit_0f7a4, 1, (some .int)),
  (yJ6_numberOfTrailingZeros_0f7a4, cJ6_numberOfTrailingZeros_0f7a4, 2, (some .int)),
  (yJ6_bitCount_0f7a4, cJ6_bitCount_0f7a4, 1, (some .int)),
  (yJ9_max_7cf53, cJ9_max_7cf53, 2, (some .int)),
  (yJ9_min_7cf53, cJ9_min_7cf53, 2, (some .int)),
  (yJ7_fill_d0a16, cJ7_fill_d0a16, 5, none),
  (yJ7_fill_53178, cJ7_fill_53178, 4, none)]
def zmt (y : Nat) : Option ZT := zMTl[y]?
theorem zinX0 : ∀ w ∈ wsX00, w ∈ zTB := zTB_in inX0 (by decide +kernel)
theorem zinX1 : ∀ w ∈ wsX10, w ∈ zTB := zTB_in inX1 (by decide +kernel)
theorem zinX2 : ∀ w ∈ wsX20, w ∈ zTB := zTB_in inX2 (by decide +kernel)
theorem zinX3 : ∀ w ∈ wsX30, w ∈ zTB := zTB_in inX3 (by decide +kernel)
theorem zinX4 : ∀ w ∈ wsX40, w ∈ zTB := zTB_in inX4 (by decide +kernel)
theorem zinX5 : ∀ w ∈ wsX50, w ∈ zTB := zTB_in inX5 (by decide +kernel)
theorem zinX6 : ∀ w ∈ wsX60, w ∈ zTB := zTB_in inX6 (by decide +kernel)
theorem zinX7 : ∀ w ∈ wsX70, w ∈ zTB := zTB_in inX7 (by decide +kernel)
theorem zinX8 : ∀ w ∈ wsX80, w ∈ zTB := zTB_in inX8 (by decide +kernel)
theorem zcons {mt : Nat → Option ZT} {cc : ByteArray} {own : String} {rk a : Nat} {op : ZP} {tb : List (Nat × ZP)} (h : ZOK mt cc own rk a op) (t : ∀ e ∈ tb, ZOK mt cc own rk e.1 e.2) : ∀ e ∈ (a, op) :: tb, ZOK mt cc own rk e.1 e.2 := fun e he => (List.mem_cons.mp he).elim (fun q => by subst q; exact h) (t e)
theorem znil {mt : Nat → Option ZT} {cc : ByteArray} {own : String} {rk : Nat} : ∀ e ∈ ([] : List (Nat × ZP)), ZOK mt cc own rk e.1 e.2 := fun e he => absurd he List.not_mem_nil
theorem zw_138 : Cond.fieldLink RX0 9 (TX0 0).1 (TX0 0).2.1 (TX0 0).2.2.1 ∈ zTB := zTB_mem 268 (by decide +kernel) rfl
theorem zw_141 : Cond.fieldLink RX0 19 (TX0 3).1 (TX0 3).2.1 (TX0 3).2.2.1 ∈ zTB := zTB_mem 271 (by decide +kernel) rfl
theorem zw_139 : Cond.fieldLink RX0 13 (TX0 1).1 (TX0 1).2.1 (TX0 1).2.2.1 ∈ zTB := zTB_mem 269 (by decide +kernel) rfl
theorem zw_140 : Cond.fieldLink RX0 16 (TX0 2).1 (TX0 2).2.1 (TX0 2).2.2.1 ∈ zTB := zTB_mem 270 (by decide +kernel) rfl
theorem zw_142 : Cond.fieldLink RX0 23 (TX0 4).1 (TX0 4).2.1 (TX0 4).2.2.1 ∈ zTB := zTB_mem 272 (by decide +kernel) rfl
theorem zw_495 : Cond.methodLink RX0 26 yJ9_min_7cf53 ∈ zTB := zTB_mem 625 (by decide +kernel) rfl
theorem zds_J9_min_7cf53 : yJ9_min_7cf53.cls ≠ "java/lang/invoke/MethodHandle" ∧ yJ9_min_7cf53.cls ≠ "java/lang/invoke/VarHandle" ∧ (parseMethodDescriptor yJ9_min_7cf53.desc).map (fun d => d.parameters.length) = some 2 := ⟨by decide +kernel, by decide +kernel, by decide +kernel⟩
theorem zw_378 : Cond.code yJ9_min_7cf53 cJ9_min_7cf53 2 (some .int) ∈ zTB := zTB_mem 508 (by decide +kernel) rfl
theorem zw_12 : Cond.initialized RJ9 ∈ zTB := zTB_mem 142 (by decide +kernel) rfl
theorem zw_377 : Cond.static yJ9_min_7cf53 ∈ zTB := zTB_mem 507 (by decide +kernel) rfl
theorem zw_445 : Cond.methodLinkNest RX0 32 yX5_takeBack "StampSheets" ∈ zNL := zNL_mem 575 (by decide +kernel) rfl
theorem zds_X5_takeBack : yX5_takeBack.cls ≠ "java/lang/invoke/MethodHandle" ∧ yX5_takeBack.cls ≠ "java/lang/invoke/VarHandle" ∧ (parseMethodDescriptor yX5_takeBack.desc).map (fun d => d.parameters.length) = some 1 := ⟨by decide +kernel, by decide +kernel, by decide +kernel⟩
theorem zw_448 : Cond.code yX5_takeBack cX5_takeBack 2 none ∈ zTB := zTB_mem 578 (by decide +kernel) rfl
theorem zw_3 : Cond.initialized RX5 ∈ zTB := zTB_mem 133 (by decide +kernel) rfl
theorem zw_447 : Cond.instanceMethod yX5_takeBack ∈ zTB := zTB_mem 577 (by decide +kernel) rfl
theorem zsel_X5_takeBack : Cond.selects yX5_takeBack.cls yX5_takeBack yX5_takeBack ∈ zTB := zTB_mem 25 (by decide +kernel) rfl
theorem zw_76 : Cond.fieldLinkNest RX0 38 (TX5 4).1 (TX5 4).2.1 (TX5 4).2.2.1 "StampSheets" ∈ zNL := zNL_mem 206 (by decide +kernel) rfl
theorem zw_449 : Cond.methodLinkNest RX0 41 yX5_sell "StampSheets" ∈ zNL := zNL_mem 579 (by decide +kernel) rfl
theorem zds_X5_sell : yX5_sell.cls ≠ "java/lang/invoke/MethodHandle" ∧ yX5_sell.cls ≠ "java/lang/invoke/VarHandle" ∧ (parseMethodDescriptor yX5_sell.desc).map (fun d => d.parameters.length) = some 3 := ⟨by decide +kernel, by decide +kernel, by decide +kernel⟩
theorem zw_452 : Cond.code yX5_sell cX5_sell 4 none ∈ zTB := zTB_mem 582 (by decide +kernel) rfl
theorem zw_451 : Cond.instanceMethod yX5_sell ∈ zTB := zTB_mem 581 (by decide +kernel) rfl
theorem zsel_X5_sell : Cond.selects yX5_sell.cls yX5_sell yX5_sell ∈ zTB := zTB_mem 26 (by decide +kernel) rfl
theorem zw_79 : Cond.fieldLinkNest RX0 45 (TX5 5).1 (TX5 5).2.1 (TX5 5).2.2.1 "StampSheets" ∈ zNL := zNL_mem 209 (by decide +kernel) rfl
theorem zw_83 : Cond.fieldLinkNest RX0 48 (TX5 6).1 (TX5 6).2.1 (TX5 6).2.2.1 "StampSheets" ∈ zNL := zNL_mem 213 (by decide +kernel) rfl
theorem zw_93 : Cond.fieldLinkNest RX0 51 (TX5 10).1 (TX5 10).2.1 (TX5 10).2.2.1 "StampSheets" ∈ zNL := zNL_mem 223 (by decide +kernel) rfl
theorem zw_72 : Cond.fieldLinkNest RX0 54 (TX5 3).1 (TX5 3).2.1 (TX5 3).2.2.1 "StampSheets" ∈ zNL := zNL_mem 202 (by decide +kernel) rfl
theorem zw_866 : Cond.methodLink RX1 31 yX1_above ∈ zTB := zTB_mem 996 (by decide +kernel) rfl
theorem zds_X1_above : yX1_above.cls ≠ "java/lang/invoke/MethodHandle" ∧ yX1_above.cls ≠ "java/lang/invoke/VarHandle" ∧ (parseMethodDescriptor yX1_above.desc).map (fun d => d.parameters.length) = some 1 := ⟨by decide +kernel, by decide +kernel, by decide +kernel⟩
theorem zw_868 : Cond.code yX1_above cX1_above 1 (some .int) ∈ zTB := zTB_mem 998 (by decide +kernel) rfl
theorem zw_6 : Cond.initialized RX1 ∈ zTB := zTB_mem 136 (by decide +kernel) rfl
theorem zw_867 : Cond.static yX1_above ∈ zTB := zTB_mem 997 (by decide +kernel) rfl
theorem zw_869 : Cond.fieldLink RX1 35 "StampSheets$Asks" "ABOVE" "[I" ∈ zTB := zTB_mem 999 (by decide +kernel) rfl
theorem zw_198 : Cond.fieldLink RX1 19 (TX1 2).1 (TX1 2).2.1 (TX1 2).2.2.1 ∈ zTB := zTB_mem 328 (by decide +kernel) rfl
theorem zw_90 : Cond.fieldLinkNest RX1 38 (TX5 9).1 (TX5 9).2.1 (TX5 9).2.2.1 "StampSheets" ∈ zNL := zNL_mem 220 (by decide +kernel) rfl
theorem zw_199 : Cond.fieldLink RX1 22 (TX1 3).1 (TX1 3).2.1 (TX1 3).2.2.1 ∈ zTB := zTB_mem 329 (by decide +kernel) rfl
theorem zw_94 : Cond.fieldLinkNest RX1 43 (TX5 10).1 (TX5 10).2.1 (TX5 10).2.2.1 "StampSheets" ∈ zNL := zNL_mem 224 (by decide +kernel) rfl
theorem zw_200 : Cond.fieldLink RX1 25 (TX1 4).1 (TX1 4).2.1 (TX1 4).2.2.1 ∈ zTB := zTB_mem 330 (by decide +kernel) rfl
theorem zw_73 : Cond.fieldLinkNest RX1 45 (TX5 3).1 (TX5 3).2.1 (TX5 3).2.2.1 "StampSheets" ∈ zNL := zNL_mem 203 (by decide +kernel) rfl
theorem zw_201 : Cond.fieldLink RX1 28 (TX1 5).1 (TX1 5).2.1 (TX1 5).2.2.1 ∈ zTB := zTB_mem 331 (by decide +kernel) rfl
theorem zw_196 : Cond.fieldLink RX1 15 (TX1 1).1 (TX1 1).2.1 (TX1 1).2.2.1 ∈ zTB := zTB_mem 326 (by decide +kernel) rfl
theorem zw_879 : Cond.methodLink RX1 46 yX1_bodyFor ∈ zTB := zTB_mem 1009 (by decide +kernel) rfl
theorem zds_X1_bodyFor : yX1_bodyFor.cls ≠ "java/lang/invoke/MethodHandle" ∧ yX1_bodyFor.cls ≠ "java/lang/invoke/VarHandle" ∧ (parseMethodDescriptor yX1_bodyFor.desc).map (fun d => d.parameters.length) = some 1 := ⟨by decide +kernel, by decide +kernel, by decide +kernel⟩
theorem zw_882 : Cond.code yX1_bodyFor cX1_bodyFor 5 (some .int) ∈ zTB := zTB_mem 1012 (by decide +kernel) rfl
theorem zw_881 : Cond.instanceMethod yX1_bodyFor ∈ zTB := zTB_mem 1011 (by decide +kernel) rfl
theorem zsel_X1_bodyFor : Cond.selects yX1_bodyFor.cls yX1_bodyFor yX1_bodyFor ∈ zTB := zTB_mem 86 (by decide +kernel) rfl
theorem zw_890 : Cond.methodLink RX1 49 yX1_body ∈ zTB := zTB_mem 1020 (by decide +kernel) rfl
theorem zds_X1_body : yX1_body.cls ≠ "java/lang/invoke/MethodHandle" ∧ yX1_body.cls ≠ "java/lang/invoke/VarHandle" ∧ (parseMethodDescriptor yX1_body.desc).map (fun d => d.parameters.length) = some 2 := ⟨by decide +kernel, by decide +kernel, by decide +kernel⟩
theorem zw_893 : Cond.code yX1_body cX1_body 4 (some .int) ∈ zTB := zTB_mem 1023 (by decide +kernel) rfl
theorem zw_892 : Cond.instanceMethod yX1_body ∈ zTB := zTB_mem 1022 (by decide +kernel) rfl
theorem zsel_X1_body : Cond.selects yX1_body.cls yX1_body yX1_body ∈ zTB := zTB_mem 87 (by decide +kernel) rfl
theorem zw_883 : Cond.methodLink RX1 53 yX1_bodyTold ∈ zTB := zTB_mem 1013 (by decide +kernel) rfl
theorem zds_X1_bodyTold : yX1_bodyTold.cls ≠ "java/lang/invoke/MethodHandle" ∧ yX1_bodyTold.cls ≠ "java/lang/invoke/VarHandle" ∧ (parseMethodDescriptor yX1_bodyTold.desc).map (fun d => d.parameters.length) = some 2 := ⟨by decide +kernel, by decide +kernel, by decide +kernel⟩
theorem zw_885 : Cond.code yX1_bodyTold cX1_bodyTold 2 (some .int) ∈ zTB := zTB_mem 1015 (by decide +kernel) rfl
theorem zw_884 : Cond.static yX1_bodyTold ∈ zTB := zTB_mem 1014 (by decide +kernel) rfl
theorem zw_886 : Cond.fieldLink RX1 56 "StampSheets$Asks" "SIZE_BODIES" "[I" ∈ zTB := zTB_mem 1016 (by decide +kernel) rfl
theorem zw_888 : Cond.fieldLink RX1 59 "StampSheets$Asks" "MARK_BODIES" "[I" ∈ zTB := zTB_mem 1018 (by decide +kernel) rfl
theorem zw_894 : Cond.methodLink RX1 62 yX1_leave ∈ zTB := zTB_mem 1024 (by decide +kernel) rfl
theorem zds_X1_leave : yX1_leave.cls ≠ "java/lang/invoke/MethodHandle" ∧ yX1_leave.cls ≠ "java/lang/invoke/VarHandle" ∧ (parseMethodDescriptor yX1_leave.desc).map (fun d => d.parameters.length) = some 1 := ⟨by decide +kernel, by decide +kernel, by decide +kernel⟩
theorem zw_897 : Cond.code yX1_leave cX1_leave 2 none ∈ zTB := zTB_mem 1027 (by decide +kernel) rfl
theorem zw_896 : Cond.instanceMethod yX1_leave ∈ zTB := zTB_mem 1026 (by decide +kernel) rfl
theorem zsel_X1_leave : Cond.selects yX1_leave.cls yX1_leave yX1_leave ∈ zTB := zTB_mem 88 (by decide +kernel) rfl
theorem zw_194 : Cond.fieldLink RX1 11 (TX1 0).1 (TX1 0).2.1 (TX1 0).2.2.1 ∈ zTB := zTB_mem 324 (by decide +kernel) rfl
theorem zw_65 : Cond.fieldLinkNest RX2 39 (TX5 1).1 (TX5 1).2.1 (TX5 1).2.2.1 "StampSheets" ∈ zNL := zNL_mem 195 (by decide +kernel) rfl
theorem zw_164 : Cond.fieldLink RX2 22 (TX2 3).1 (TX2 3).2.1 (TX2 3).2.2.1 ∈ zTB := zTB_mem 294 (by decide +kernel) rfl
theorem zw_161 : Cond.fieldLink RX2 9 (TX2 0).1 (TX2 0).2.1 (TX2 0).2.2.1 ∈ zTB := zTB_mem 291 (by decide +kernel) rfl
theorem zw_422 : Cond.methodLink RX2 44 yJ6_bitCount_0f7a4 ∈ zTB := zTB_mem 552 (by decide +kernel) rfl
theorem zds_J6_bitCount_0f7a4 : yJ6_bitCount_0f7a4.cls ≠ "java/lang/invoke/MethodHandle" ∧ yJ6_bitCount_0f7a4.cls ≠ "java/lang/invoke/VarHandle" ∧ (parseMethodDescriptor yJ6_bitCount_0f7a4.desc).map (fun d => d.parameters.length) = some 1 := ⟨by decide +kernel, by decide +kernel, by decide +kernel⟩
theorem zw_424 : Cond.code yJ6_bitCount_0f7a4 cJ6_bitCount_0f7a4 1 (some .int) ∈ zTB := zTB_mem 554 (by decide +kernel) rfl
theorem zw_13 : Cond.initialized RJ6 ∈ zTB := zTB_mem 143 (by decide +kernel) rfl
theorem zw_423 : Cond.static yJ6_bitCount_0f7a4 ∈ zTB := zTB_mem 553 (by decide +kernel) rfl
theorem zw_428 : Cond.methodLink RX2 50 yX2_hangsByOneLess ∈ zTB := zTB_mem 558 (by decide +kernel) rfl
theorem zds_X2_hangsByOneLess : yX2_hangsByOneLess.cls ≠ "java/lang/invoke/MethodHandle" ∧ yX2_hangsByOneLess.cls ≠ "java/lang/invoke/VarHandle" ∧ (parseMethodDescriptor yX2_hangsByOneLess.desc).map (fun d => d.parameters.length) = some 2 := ⟨by decide +kernel, by decide +kernel, by decide +kernel⟩
theorem zw_431 : Cond.code yX2_hangsByOneLess cX2_hangsByOneLess 5 (some .boolean) ∈ zTB := zTB_mem 561 (by decide +kernel) rfl
theorem zw_5 : Cond.initialized RX2 ∈ zTB := zTB_mem 135 (by decide +kernel) rfl
theorem zw_430 : Cond.instanceMethod yX2_hangsByOneLess ∈ zTB := zTB_mem 560 (by decide +kernel) rfl
theorem zsel_X2_hangsByOneLess : Cond.selects yX2_hangsByOneLess.cls yX2_hangsByOneLess yX2_hangsByOneLess ∈ zTB := zTB_mem 23 (by decide +kernel) rfl
theorem zw_162 : Cond.fieldLink RX2 15 (TX2 1).1 (TX2 1).2.1 (TX2 1).2.2.1 ∈ zTB := zTB_mem 292 (by decide +kernel) rfl
theorem zw_87 : Cond.fieldLinkNest RX2 54 (TX5 8).1 (TX5 8).2.1 (TX5 8).2.2.1 "StampSheets" ∈ zNL := zNL_mem 217 (by decide +kernel) rfl
theorem zw_163 : Cond.fieldLink RX2 19 (TX2 2).1 (TX2 2).2.1 (TX2 2).2.2.1 ∈ zTB := zTB_mem 293 (by decide +kernel) rfl
theorem zw_615 : Cond.methodLinkNest RX2 57 yX5_paysOf "StampSheets" ∈ zNL := zNL_mem 745 (by decide +kernel) rfl
theorem zds_X5_paysOf : yX5_paysOf.cls ≠ "java/lang/invoke/MethodHandle" ∧ yX5_paysOf.cls ≠ "java/lang/invoke/VarHandle" ∧ (parseMethodDescriptor yX5_paysOf.desc).map (fun d => d.parameters.length) = some 1 := ⟨by decide +kernel, by decide +kernel, by decide +kernel⟩
theorem zw_476 : Cond.code yX5_paysOf cX5_paysOf 4 (some .int) ∈ zTB := zTB_mem 606 (by decide +kernel) rfl
theorem zw_475 : Cond.instanceMethod yX5_paysOf ∈ zTB := zTB_mem 605 (by decide +kernel) rfl
theorem zsel_X5_paysOf : Cond.selects yX5_paysOf.cls yX5_paysOf yX5_paysOf ∈ zTB := zTB_mem 31 (by decide +kernel) rfl
theorem zw_465 : Cond.methodLinkNest RX2 60 yX5_holds "StampSheets" ∈ zNL := zNL_mem 595 (by decide +kernel) rfl
theorem zds_X5_holds : yX5_holds.cls ≠ "java/lang/invoke/MethodHandle" ∧ yX5_holds.cls ≠ "java/lang/invoke/VarHandle" ∧ (parseMethodDescriptor yX5_holds.desc).map (fun d => d.parameters.length) = some 1 := ⟨by decide +kernel, by decide +kernel, by decide +kernel⟩
theorem zw_468 : Cond.code yX5_holds cX5_holds 2 (some .boolean) ∈ zTB := zTB_mem 598 (by decide +kernel) rfl
theorem zw_467 : Cond.instanceMethod yX5_holds ∈ zTB := zTB_mem 597 (by decide +kernel) rfl
theorem zsel_X5_holds : Cond.selects yX5_holds.cls yX5_holds yX5_holds ∈ zTB := zTB_mem 29 (by decide +kernel) rfl
theorem zw_652 : Cond.methodLinkNest RX2 64 yX5_suits "StampSheets" ∈ zNL := zNL_mem 782 (by decide +kernel) rfl
theorem zds_X5_suits : yX5_suits.cls ≠ "java/lang/invoke/MethodHandle" ∧ yX5_suits.cls ≠ "java/lang/invoke/VarHandle" ∧ (parseMethodDescriptor yX5_suits.desc).map (fun d => d.parameters.length) = some 2 := ⟨by decide +kernel, by decide +kernel, by decide +kernel⟩
theorem zw_485 : Cond.code yX5_suits cX5_suits 3 (some .boolean) ∈ zTB := zTB_mem 615 (by decide +kernel) rfl
theorem zw_484 : Cond.instanceMethod yX5_suits ∈ zTB := zTB_mem 614 (by decide +kernel) rfl
theorem zsel_X5_suits : Cond.selects yX5_suits.cls yX5_suits yX5_suits ∈ zTB := zTB_mem 33 (by decide +kernel) rfl
theorem zw_599 : Cond.methodLink RX2 68 yX2_isStraight ∈ zTB := zTB_mem 729 (by decide +kernel) rfl
theorem zds_X2_isStraight : yX2_isStraight.cls ≠ "java/lang/invoke/MethodHandle" ∧ yX2_isStraight.cls ≠ "java/lang/invoke/VarHandle" ∧ (parseMethodDescriptor yX2_isStraight.desc).map (fun d => d.parameters.length) = some 2 := ⟨by decide +kernel, by decide +kernel, by decide +kernel⟩
theorem zw_602 : Cond.code yX2_isStraight cX2_isStraight 7 (some .boolean) ∈ zTB := zTB_mem 732 (by decide +kernel) rfl
theorem zw_601 : Cond.instanceMethod yX2_isStraight ∈ zTB := zTB_mem 731 (by decide +kernel) rfl
theorem zsel_X2_isStraight : Cond.selects yX2_isStraight.cls yX2_isStraight yX2_isStraight ∈ zTB := zTB_mem 49 (by decide +kernel) rfl
theorem zw_63 : Cond.fieldLinkNest RX2 71 (TX5 0).1 (TX5 0).2.1 (TX5 0).2.2.1 "StampSheets" ∈ zNL := zNL_mem 193 (by decide +kernel) rfl
theorem zw_603 : Cond.methodLink RX2 74 yJ6_numberOfTrailingZeros_0f7a4 ∈ zTB := zTB_mem 733 (by decide +kernel) rfl
theorem zds_J6_numberOfTrailingZeros_0f7a4 : yJ6_numberOfTrailingZeros_0f7a4.cls ≠ "java/lang/invoke/MethodHandle" ∧ yJ6_numberOfTrailingZeros_0f7a4.cls ≠ "java/lang/invoke/VarHandle" ∧ (parseMethodDescriptor yJ6_numberOfTrailingZeros_0f7a4.desc).map (fun d => d.parameters.length) = some 1 := ⟨by decide +kernel, by decide +kernel, by decide +kernel⟩
theorem zw_605 : Cond.code yJ6_numberOfTrailingZeros_0f7a4 cJ6_numberOfTrailingZeros_0f7a4 2 (some .int) ∈ zTB := zTB_mem 735 (by decide +kernel) rfl
theorem zw_604 : Cond.static yJ6_numberOfTrailingZeros_0f7a4 ∈ zTB := zTB_mem 734 (by decide +kernel) rfl
theorem zw_167 : Cond.fieldLink RX2 32 (TX2 6).1 (TX2 6).2.1 (TX2 6).2.2.1 ∈ zTB := zTB_mem 297 (by decide +kernel) rfl
theorem zw_627 : Cond.methodLink RX2 77 yJ7_fill_53178 ∈ zTB := zTB_mem 757 (by decide +kernel) rfl
theorem zds_J7_fill_53178 : yJ7_fill_53178.cls ≠ "java/lang/invoke/MethodHandle" ∧ yJ7_fill_53178.cls ≠ "java/lang/invoke/VarHandle" ∧ (parseMethodDescriptor yJ7_fill_53178.desc).map (fun d => d.parameters.length) = some 2 := ⟨by decide +kernel, by decide +kernel, by decide +kernel⟩
theorem zw_304 : Cond.code yJ7_fill_53178 cJ7_fill_53178 4 none ∈ zTB := zTB_mem 434 (by decide +kernel) rfl
theorem zw_10 : Cond.initialized RJ7 ∈ zTB := zTB_mem 140 (by decide +kernel) rfl
theorem zw_303 : Cond.static yJ7_fill_53178 ∈ zTB := zTB_mem 433 (by decide +kernel) rfl
theorem zw_636 : Cond.constant RX2 83 (-1000000) ∈ zTB := zTB_mem 766 (by decide +kernel) rfl
theorem zw_620 : Cond.methodLink RX2 84 yJ9_max_7cf53 ∈ zTB := zTB_mem 750 (by decide +kernel) rfl
theorem zds_J9_max_7cf53 : yJ9_max_7cf53.cls ≠ "java/lang/invoke/MethodHandle" ∧ yJ9_max_7cf53.cls ≠ "java/lang/invoke/VarHandle" ∧ (parseMethodDescriptor yJ9_max_7cf53.desc).map (fun d => d.parameters.length) = some 2 := ⟨by decide +kernel, by decide +kernel, by decide +kernel⟩
theorem zw_622 : Cond.code yJ9_max_7cf53 cJ9_max_7cf53 2 (some .int) ∈ zTB := zTB_mem 752 (by decide +kernel) rfl
theorem zw_621 : Cond.static yJ9_max_7cf53 ∈ zTB := zTB_mem 751 (by decide +kernel) rfl
theorem zw_648 : Cond.methodLink RX2 90 yX2_couldServe ∈ zTB := zTB_mem 778 (by decide +kernel) rfl
theorem zds_X2_couldServe : yX2_couldServe.cls ≠ "java/lang/invoke/MethodHandle" ∧ yX2_couldServe.cls ≠ "java/lang/invoke/VarHandle" ∧ (parseMethodDescriptor yX2_couldServe.desc).map (fun d => d.parameters.length) = some 3 := ⟨by decide +kernel, by decide +kernel, by decide +kernel⟩
theorem zw_651 : Cond.code yX2_couldServe cX2_couldServe 4 (some .boolean) ∈ zTB := zTB_mem 781 (by decide +kernel) rfl
theorem zw_650 : Cond.instanceMethod yX2_couldServe ∈ zTB := zTB_mem 780 (by decide +kernel) rfl
theorem zsel_X2_couldServe : Cond.selects yX2_couldServe.cls yX2_couldServe yX2_couldServe ∈ zTB := zTB_mem 56 (by decide +kernel) rfl
theorem zw_653 : Cond.methodLink RX2 94 yX2_rankOf ∈ zTB := zTB_mem 783 (by decide +kernel) rfl
theorem zds_X2_rankOf : yX2_rankOf.cls ≠ "java/lang/invoke/MethodHandle" ∧ yX2_rankOf.cls ≠ "java/lang/invoke/VarHandle" ∧ (parseMethodDescriptor yX2_rankOf.desc).map (fun d => d.parameters.length) = some 2 := ⟨by decide +kernel, by decide +kernel, by decide +kernel⟩
theorem zw_655 : Cond.code yX2_rankOf cX2_rankOf 2 (some .int) ∈ zTB := zTB_mem 785 (by decide +kernel) rfl
theorem zw_654 : Cond.static yX2_rankOf ∈ zTB := zTB_mem 784 (by decide +kernel) rfl
theorem zw_656 : Cond.methodLinkNest RX2 98 yX5_tearsOf "StampSheets" ∈ zNL := zNL_mem 786 (by decide +kernel) rfl
theorem zds_X5_tearsOf : yX5_tearsOf.cls ≠ "java/lang/invoke/MethodHandle" ∧ yX5_tearsOf.cls ≠ "java/lang/invoke/VarHandle" ∧ (parseMethodDescriptor yX5_tearsOf.desc).map (fun d => d.parameters.length) = some 1 := ⟨by decide +kernel, by decide +kernel, by decide +kernel⟩
theorem zw_489 : Cond.code yX5_tearsOf cX5_tearsOf 4 (some .int) ∈ zTB := zTB_mem 619 (by decide +kernel) rfl
theorem zw_488 : Cond.instanceMethod yX5_tearsOf ∈ zTB := zTB_mem 618 (by decide +kernel) rfl
theorem zsel_X5_tearsOf : Cond.selects yX5_tearsOf.cls yX5_tearsOf yX5_tearsOf ∈ zTB := zTB_mem 34 (by decide +kernel) rfl
theorem zw_682 : Cond.methodLink RX2 101 yX2_findSuited ∈ zTB := zTB_mem 812 (by decide +kernel) rfl
theorem zds_X2_findSuited : yX2_findSuited.cls ≠ "java/lang/invoke/MethodHandle" ∧ yX2_findSuited.cls ≠ "java/lang/invoke/VarHandle" ∧ (parseMethodDescriptor yX2_findSuited.desc).map (fun d => d.parameters.length) = some 1 := ⟨by decide +kernel, by decide +kernel, by decide +kernel⟩
theorem zw_685 : Cond.code yX2_findSuited cX2_findSuited 3 none ∈ zTB := zTB_mem 815 (by decide +kernel) rfl
theorem zw_684 : Cond.instanceMethod yX2_findSuited ∈ zTB := zTB_mem 814 (by decide +kernel) rfl
theorem zsel_X2_findSuited : Cond.selects yX2_findSuited.cls yX2_findSuited yX2_findSuited ∈ zTB := zTB_mem 60 (by decide +kernel) rfl
theorem zw_691 : Cond.methodLink RX2 105 yX2_findServable ∈ zTB := zTB_mem 821 (by decide +kernel) rfl
theorem zds_X2_findServable : yX2_findServable.cls ≠ "java/lang/invoke/MethodHandle" ∧ yX2_findServable.cls ≠ "java/lang/invoke/VarHandle" ∧ (parseMethodDescriptor yX2_findServable.desc).map (fun d => d.parameters.length) = some 1 := ⟨by decide +kernel, by decide +kernel, by decide +kernel⟩
theorem zw_694 : Cond.code yX2_findServable cX2_findServable 3 none ∈ zTB := zTB_mem 824 (by decide +kernel) rfl
theorem zw_693 : Cond.instanceMethod yX2_findServable ∈ zTB := zTB_mem 823 (by decide +kernel) rfl
theorem zsel_X2_findServable : Cond.selects yX2_findServable.cls yX2_findServable yX2_findServable ∈ zTB := zTB_mem 62 (by decide +kernel) rfl
theorem zw_81 : Cond.fieldLinkNest RX2 108 (TX5 5).1 (TX5 5).2.1 (TX5 5).2.2.1 "StampSheets" ∈ zNL := zNL_mem 211 (by decide +kernel) rfl
theorem zw_705 : Cond.methodLink RX2 111 yX2_canServe ∈ zTB := zTB_mem 835 (by decide +kernel) rfl
theorem zds_X2_canServe : yX2_canServe.cls ≠ "java/lang/invoke/MethodHandle" ∧ yX2_canServe.cls ≠ "java/lang/invoke/VarHandle" ∧ (parseMethodDescriptor yX2_canServe.desc).map (fun d => d.parameters.length) = some 2 := ⟨by decide +kernel, by decide +kernel, by decide +kernel⟩
theorem zw_708 : Cond.code yX2_canServe cX2_canServe 3 (some .boolean) ∈ zTB := zTB_mem 838 (by decide +kernel) rfl
theorem zw_707 : Cond.instanceMethod yX2_canServe ∈ zTB := zTB_mem 837 (by decide +kernel) rfl
theorem zsel_X2_canServe : Cond.selects yX2_canServe.cls yX2_canServe yX2_canServe ∈ zTB := zTB_mem 64 (by decide +kernel) rfl
theorem zw_165 : Cond.fieldLink RX2 26 (TX2 4).1 (TX2 4).2.1 (TX2 4).2.2.1 ∈ zTB := zTB_mem 295 (by decide +kernel) rfl
theorem zw_686 : Cond.methodLink RX2 114 yX2_suitedBy ∈ zTB := zTB_mem 816 (by decide +kernel) rfl
theorem zds_X2_suitedBy : yX2_suitedBy.cls ≠ "java/lang/invoke/MethodHandle" ∧ yX2_suitedBy.cls ≠ "java/lang/invoke/VarHandle" ∧ (parseMethodDescriptor yX2_suitedBy.desc).map (fun d => d.parameters.length) = some 2 := ⟨by decide +kernel, by decide +kernel, by decide +kernel⟩
theorem zw_689 : Cond.code yX2_suitedBy cX2_suitedBy 5 (some .int) ∈ zTB := zTB_mem 819 (by decide +kernel) rfl
theorem zw_688 : Cond.instanceMethod yX2_suitedBy ∈ zTB := zTB_mem 818 (by decide +kernel) rfl
theorem zsel_X2_suitedBy : Cond.selects yX2_suitedBy.cls yX2_suitedBy yX2_suitedBy ∈ zTB := zTB_mem 61 (by decide +kernel) rfl
theorem zw_69 : Cond.fieldLinkNest RX2 117 (TX5 2).1 (TX5 2).2.1 (TX5 2).2.2.1 "StampSheets" ∈ zNL := zNL_mem 199 (by decide +kernel) rfl
theorem zw_690 : Cond.methodLinkNest RX2 120 yX5_isServed "StampSheets" ∈ zNL := zNL_mem 820 (by decide +kernel) rfl
theorem zds_X5_isServed : yX5_isServed.cls ≠ "java/lang/invoke/MethodHandle" ∧ yX5_isServed.cls ≠ "java/lang/invoke/VarHandle" ∧ (parseMethodDescriptor yX5_isServed.desc).map (fun d => d.parameters.length) = some 1 := ⟨by decide +kernel, by decide +kernel, by decide +kernel⟩
theorem zw_472 : Cond.code yX5_isServed cX5_isServed 2 (some .boolean) ∈ zTB := zTB_mem 602 (by decide +kernel) rfl
theorem zw_471 : Cond.instanceMethod yX5_isServed ∈ zTB := zTB_mem 601 (by decide +kernel) rfl
theorem zsel_X5_isServed : Cond.selects yX5_isServed.cls yX5_isServed yX5_isServed ∈ zTB := zTB_mem 30 (by decide +kernel) rfl
theorem zw_166 : Cond.fieldLink RX2 29 (TX2 5).1 (TX2 5).2.1 (TX2 5).2.2.1 ∈ zTB := zTB_mem 296 (by decide +kernel) rfl
theorem zw_695 : Cond.methodLink RX2 123 yX2_servableBy ∈ zTB := zTB_mem 825 (by decide +kernel) rfl
theorem zds_X2_servableBy : yX2_servableBy.cls ≠ "java/lang/invoke/MethodHandle" ∧ yX2_servableBy.cls ≠ "java/lang/invoke/VarHandle" ∧ (parseMethodDescriptor yX2_servableBy.desc).map (fun d => d.parameters.length) = some 1 := ⟨by decide +kernel, by decide +kernel, by decide +kernel⟩
theorem zw_698 : Cond.code yX2_servableBy cX2_servableBy 7 (some .int) ∈ zTB := zTB_mem 828 (by decide +kernel) rfl
theorem zw_697 : Cond.instanceMethod yX2_servableBy ∈ zTB := zTB_mem 827 (by decide +kernel) rfl
theorem zsel_X2_servableBy : Cond.selects yX2_servableBy.cls yX2_servableBy yX2_servableBy ∈ zTB := zTB_mem 63 (by decide +kernel) rfl
theorem zw_699 : Cond.methodLink RX2 126 yJ6_lowestOneBit_0f7a4 ∈ zTB := zTB_mem 829 (by decide +kernel) rfl
theorem zds_J6_lowestOneBit_0f7a4 : yJ6_lowestOneBit_0f7a4.cls ≠ "java/lang/invoke/MethodHandle" ∧ yJ6_lowestOneBit_0f7a4.cls ≠ "java/lang/invoke/VarHandle" ∧ (parseMethodDescriptor yJ6_lowestOneBit_0f7a4.desc).map (fun d => d.parameters.length) = some 1 := ⟨by decide +kernel, by decide +kernel, by decide +kernel⟩
theorem zw_570 : Cond.code yJ6_lowestOneBit_0f7a4 cJ6_lowestOneBit_0f7a4 1 (some .int) ∈ zTB := zTB_mem 700 (by decide +kernel) rfl
theorem zw_569 : Cond.static yJ6_lowestOneBit_0f7a4 ∈ zTB := zTB_mem 699 (by decide +kernel) rfl
theorem zw_700 : Cond.methodLink RX2 129 yX2_withOneMore ∈ zTB := zTB_mem 830 (by decide +kernel) rfl
theorem zds_X2_withOneMore : yX2_withOneMore.cls ≠ "java/lang/invoke/MethodHandle" ∧ yX2_withOneMore.cls ≠ "java/lang/invoke/VarHandle" ∧ (parseMethodDescriptor yX2_withOneMore.desc).map (fun d => d.parameters.length) = some 2 := ⟨by decide +kernel, by decide +kernel, by decide +kernel⟩
theorem zw_702 : Cond.code yX2_withOneMore cX2_withOneMore 4 (some .int) ∈ zTB := zTB_mem 832 (by decide +kernel) rfl
theorem zw_701 : Cond.static yX2_withOneMore ∈ zTB := zTB_mem 831 (by decide +kernel) rfl
theorem zw_703 : Cond.fieldLink RX2 132 "StampSheets$Finder" "WITHOUT" "[I" ∈ zTB := zTB_mem 833 (by decide +kernel) rfl
theorem zw_713 : Cond.methodLink RX2 135 yX2_firstPieceLeaving ∈ zTB := zTB_mem 843 (by decide +kernel) rfl
theorem zds_X2_firstPieceLeaving : yX2_firstPieceLeaving.cls ≠ "java/lang/invoke/MethodHandle" ∧ yX2_firstPieceLeaving.cls ≠ "java/lang/invoke/VarHandle" ∧ (parseMethodDescriptor yX2_firstPieceLeaving.desc).map (fun d => d.parameters.length) = some 3 := ⟨by decide +kernel, by decide +kernel, by decide +kernel⟩
theorem zw_716 : Cond.code yX2_firstPieceLeaving cX2_firstPieceLeaving 6 (some .int) ∈ zTB := zTB_mem 846 (by decide +kernel) rfl
theorem zw_715 : Cond.instanceMethod yX2_firstPieceLeaving ∈ zTB := zTB_mem 845 (by decide +kernel) rfl
theorem zsel_X2_firstPieceLeaving : Cond.selects yX2_firstPieceLeaving.cls yX2_firstPieceLeaving yX2_firstPieceLeaving ∈ zTB := zTB_mem 66 (by decide +kernel) rfl
theorem zw_168 : Cond.fieldLink RX2 35 (TX2 7).1 (TX2 7).2.1 (TX2 7).2.2.1 ∈ zTB := zTB_mem 298 (by decide +kernel) rfl
theorem zw_820 : Cond.methodLink RX2 139 yJ7_fill_d0a16 ∈ zTB := zTB_mem 950 (by decide +kernel) rfl
theorem zds_J7_fill_d0a16 : yJ7_fill_d0a16.cls ≠ "java/lang/invoke/MethodHandle" ∧ yJ7_fill_d0a16.cls ≠ "java/lang/invoke/VarHandle" ∧ (parseMethodDescriptor yJ7_fill_d0a16.desc).map (fun d => d.parameters.length) = some 2 := ⟨by decide +kernel, by decide +kernel, by decide +kernel⟩
theorem zw_822 : Cond.code yJ7_fill_d0a16 cJ7_fill_d0a16 5 none ∈ zTB := zTB_mem 952 (by decide +kernel) rfl
theorem zw_821 : Cond.static yJ7_fill_d0a16 ∈ zTB := zTB_mem 951 (by decide +kernel) rfl
theorem zw_823 : Cond.methodLinkNest RX2 142 yX7_powerOf "StampSheets" ∈ zNL := zNL_mem 953 (by decide +kernel) rfl
theorem zds_X7_powerOf : yX7_powerOf.cls ≠ "java/lang/invoke/MethodHandle" ∧ yX7_powerOf.cls ≠ "java/lang/invoke/VarHandle" ∧ (parseMethodDescriptor yX7_powerOf.desc).map (fun d => d.parameters.length) = some 2 := ⟨by decide +kernel, by decide +kernel, by decide +kernel⟩
theorem zw_815 : Cond.code yX7_powerOf cX7_powerOf 6 (some .long) ∈ zTB := zTB_mem 945 (by decide +kernel) rfl
theorem zw_1 : Cond.initialized RX7 ∈ zTB := zTB_mem 131 (by decide +kernel) rfl
theorem zw_814 : Cond.static yX7_powerOf ∈ zTB := zTB_mem 944 (by decide +kernel) rfl
theorem zw_824 : Cond.constantLong RX2 146 10 ∈ zTB := zTB_mem 954 (by decide +kernel) rfl
theorem zw_825 : Cond.methodLink RX2 148 yX2_addStamp ∈ zTB := zTB_mem 955 (by decide +kernel) rfl
theorem zds_X2_addStamp : yX2_addStamp.cls ≠ "java/lang/invoke/MethodHandle" ∧ yX2_addStamp.cls ≠ "java/lang/invoke/VarHandle" ∧ (parseMethodDescriptor yX2_addStamp.desc).map (fun d => d.parameters.length) = some 2 := ⟨by decide +kernel, by decide +kernel, by decide +kernel⟩
theorem zw_828 : Cond.code yX2_addStamp cX2_addStamp 6 none ∈ zTB := zTB_mem 958 (by decide +kernel) rfl
theorem zw_827 : Cond.instanceMethod yX2_addStamp ∈ zTB := zTB_mem 957 (by decide +kernel) rfl
theorem zsel_X2_addStamp : Cond.selects yX2_addStamp.cls yX2_addStamp yX2_addStamp ∈ zTB := zTB_mem 83 (by decide +kernel) rfl
theorem zw_31 : Cond.fieldLink RX3 15 (TX3 1).1 (TX3 1).2.1 (TX3 1).2.2.1 ∈ zTB := zTB_mem 161 (by decide +kernel) rfl
theorem zw_30 : Cond.fieldLink RX3 11 (TX3 0).1 (TX3 0).2.1 (TX3 0).2.2.1 ∈ zTB := zTB_mem 160 (by decide +kernel) rfl
theorem zw_33 : Cond.fieldLink RX3 19 (TX3 2).1 (TX3 2).2.1 (TX3 2).2.2.1 ∈ zTB := zTB_mem 163 (by decide +kernel) rfl
theorem zw_349 : Cond.methodLink RX3 34 yX3_step ∈ zTB := zTB_mem 479 (by decide +kernel) rfl
theorem zds_X3_step : yX3_step.cls ≠ "java/lang/invoke/MethodHandle" ∧ yX3_step.cls ≠ "java/lang/invoke/VarHandle" ∧ (parseMethodDescriptor yX3_step.desc).map (fun d => d.parameters.length) = some 0 := ⟨by decide +kernel, by decide +kernel, by decide +kernel⟩
theorem zw_352 : Cond.code yX3_step cX3_step 2 none ∈ zTB := zTB_mem 482 (by decide +kernel) rfl
theorem zw_2 : Cond.initialized RX3 ∈ zTB := zTB_mem 132 (by decide +kernel) rfl
theorem zw_351 : Cond.instanceMethod yX3_step ∈ zTB := zTB_mem 481 (by decide +kernel) rfl
theorem zsel_X3_step : Cond.selects yX3_step.cls yX3_step yX3_step ∈ zTB := zTB_mem 7 (by decide +kernel) rfl
theorem zw_360 : Cond.methodLink RX3 37 yX3_readLaw ∈ zTB := zTB_mem 490 (by decide +kernel) rfl
theorem zds_X3_readLaw : yX3_readLaw.cls ≠ "java/lang/invoke/MethodHandle" ∧ yX3_readLaw.cls ≠ "java/lang/invoke/VarHandle" ∧ (parseMethodDescriptor yX3_readLaw.desc).map (fun d => d.parameters.length) = some 1 := ⟨by decide +kernel, by decide +kernel, by decide +kernel⟩
theorem zw_363 : Cond.code yX3_readLaw cX3_readLaw 5 (some .boolean) ∈ zTB := zTB_mem 493 (by decide +kernel) rfl
theorem zw_362 : Cond.instanceMethod yX3_readLaw ∈ zTB := zTB_mem 492 (by decide +kernel) rfl
theorem zsel_X3_readLaw : Cond.selects yX3_readLaw.cls yX3_readLaw yX3_readLaw ∈ zTB := zTB_mem 9 (by decide +kernel) rfl
theorem zw_388 : Cond.methodLink RX3 41 yX3_readStamps ∈ zTB := zTB_mem 518 (by decide +kernel) rfl
theorem zds_X3_readStamps : yX3_readStamps.cls ≠ "java/lang/invoke/MethodHandle" ∧ yX3_readStamps.cls ≠ "java/lang/invoke/VarHandle" ∧ (parseMethodDescriptor yX3_readStamps.desc).map (fun d => d.parameters.length) = some 1 := ⟨by decide +kernel, by decide +kernel, by decide +kernel⟩
theorem zw_391 : Cond.code yX3_readStamps cX3_readStamps 5 (some .boolean) ∈ zTB := zTB_mem 521 (by decide +kernel) rfl
theorem zw_390 : Cond.instanceMethod yX3_readStamps ∈ zTB := zTB_mem 520 (by decide +kernel) rfl
theorem zsel_X3_readStamps : Cond.selects yX3_readStamps.cls yX3_readStamps yX3_readStamps ∈ zTB := zTB_mem 15 (by decide +kernel) rfl
theorem zw_400 : Cond.methodLink RX3 44 yX3_readCustomers ∈ zTB := zTB_mem 530 (by decide +kernel) rfl
theorem zds_X3_readCustomers : yX3_readCustomers.cls ≠ "java/lang/invoke/MethodHandle" ∧ yX3_readCustomers.cls ≠ "java/lang/invoke/VarHandle" ∧ (parseMethodDescriptor yX3_readCustomers.desc).map (fun d => d.parameters.length) = some 1 := ⟨by decide +kernel, by decide +kernel, by decide +kernel⟩
theorem zw_403 : Cond.code yX3_readCustomers cX3_readCustomers 5 (some .boolean) ∈ zTB := zTB_mem 533 (by decide +kernel) rfl
theorem zw_402 : Cond.instanceMethod yX3_readCustomers ∈ zTB := zTB_mem 532 (by decide +kernel) rfl
theorem zsel_X3_readCustomers : Cond.selects yX3_readCustomers.cls yX3_readCustomers yX3_readCustomers ∈ zTB := zTB_mem 18 (by decide +kernel) rfl
theorem zw_364 : Cond.methodLink RX3 47 yX3_takes ∈ zTB := zTB_mem 494 (by decide +kernel) rfl
theorem zds_X3_takes : yX3_takes.cls ≠ "java/lang/invoke/MethodHandle" ∧ yX3_takes.cls ≠ "java/lang/invoke/VarHandle" ∧ (parseMethodDescriptor yX3_takes.desc).map (fun d => d.parameters.length) = some 1 := ⟨by decide +kernel, by decide +kernel, by decide +kernel⟩
theorem zw_367 : Cond.code yX3_takes cX3_takes 2 (some .boolean) ∈ zTB := zTB_mem 497 (by decide +kernel) rfl
theorem zw_366 : Cond.instanceMethod yX3_takes ∈ zTB := zTB_mem 496 (by decide +kernel) rfl
theorem zsel_X3_takes : Cond.selects yX3_takes.cls yX3_takes yX3_takes ∈ zTB := zTB_mem 10 (by decide +kernel) rfl
theorem zw_372 : Cond.methodLink RX3 51 yX3_takeNumber ∈ zTB := zTB_mem 502 (by decide +kernel) rfl
theorem zds_X3_takeNumber : yX3_takeNumber.cls ≠ "java/lang/invoke/MethodHandle" ∧ yX3_takeNumber.cls ≠ "java/lang/invoke/VarHandle" ∧ (parseMethodDescriptor yX3_takeNumber.desc).map (fun d => d.parameters.length) = some 2 := ⟨by decide +kernel, by decide +kernel, by decide +kernel⟩
theorem zw_375 : Cond.code yX3_takeNumber cX3_takeNumber 4 (some .int) ∈ zTB := zTB_mem 505 (by decide +kernel) rfl
theorem zw_374 : Cond.instanceMethod yX3_takeNumber ∈ zTB := zTB_mem 504 (by decide +kernel) rfl
theorem zsel_X3_takeNumber : Cond.selects yX3_takeNumber.cls yX3_takeNumber yX3_takeNumber ∈ zTB := zTB_mem 12 (by decide +kernel) rfl
theorem zw_376 : Cond.methodLink RX3 55 yJ9_min_7cf53 ∈ zTB := zTB_mem 506 (by decide +kernel) rfl
theorem zw_379 : Cond.methodLinkNest RX3 60 yX5_begin "StampSheets" ∈ zNL := zNL_mem 509 (by decide +kernel) rfl
theorem zds_X5_begin : yX5_begin.cls ≠ "java/lang/invoke/MethodHandle" ∧ yX5_begin.cls ≠ "java/lang/invoke/VarHandle" ∧ (parseMethodDescriptor yX5_begin.desc).map (fun d => d.parameters.length) = some 3 := ⟨by decide +kernel, by decide +kernel, by decide +kernel⟩
theorem zw_382 : Cond.code yX5_begin cX5_begin 5 none ∈ zTB := zTB_mem 512 (by decide +kernel) rfl
theorem zw_381 : Cond.instanceMethod yX5_begin ∈ zTB := zTB_mem 511 (by decide +kernel) rfl
theorem zsel_X5_begin : Cond.selects yX5_begin.cls yX5_begin yX5_begin ∈ zTB := zTB_mem 13 (by decide +kernel) rfl
theorem zw_66 : Cond.fieldLinkNest RX3 66 (TX5 1).1 (TX5 1).2.1 (TX5 1).2.2.1 "StampSheets" ∈ zNL := zNL_mem 196 (by decide +kernel) rfl
theorem zw_392 : Cond.methodLink RX3 69 yX3_kindOfSort ∈ zTB := zTB_mem 522 (by decide +kernel) rfl
theorem zds_X3_kindOfSort : yX3_kindOfSort.cls ≠ "java/lang/invoke/MethodHandle" ∧ yX3_kindOfSort.cls ≠ "java/lang/invoke/VarHandle" ∧ (parseMethodDescriptor yX3_kindOfSort.desc).map (fun d => d.parameters.length) = some 0 := ⟨by decide +kernel, by decide +kernel, by decide +kernel⟩
theorem zw_395 : Cond.code yX3_kindOfSort cX3_kindOfSort 1 (some .int) ∈ zTB := zTB_mem 525 (by decide +kernel) rfl
theorem zw_394 : Cond.instanceMethod yX3_kindOfSort ∈ zTB := zTB_mem 524 (by decide +kernel) rfl
theorem zsel_X3_kindOfSort : Cond.selects yX3_kindOfSort.cls yX3_kindOfSort yX3_kindOfSort ∈ zTB := zTB_mem 16 (by decide +kernel) rfl
theorem zw_368 : Cond.methodLink RX3 73 yX3_refuse ∈ zTB := zTB_mem 498 (by decide +kernel) rfl
theorem zds_X3_refuse : yX3_refuse.cls ≠ "java/lang/invoke/MethodHandle" ∧ yX3_refuse.cls ≠ "java/lang/invoke/VarHandle" ∧ (parseMethodDescriptor yX3_refuse.desc).map (fun d => d.parameters.length) = some 1 := ⟨by decide +kernel, by decide +kernel, by decide +kernel⟩
theorem zw_371 : Cond.code yX3_refuse cX3_refuse 2 (some .boolean) ∈ zTB := zTB_mem 501 (by decide +kernel) rfl
theorem zw_370 : Cond.instanceMethod yX3_refuse ∈ zTB := zTB_mem 500 (by decide +kernel) rfl
theorem zsel_X3_refuse : Cond.selects yX3_refuse.cls yX3_refuse yX3_refuse ∈ zTB := zTB_mem 11 (by decide +kernel) rfl
theorem zw_396 : Cond.methodLinkNest RX3 76 yX5_put "StampSheets" ∈ zNL := zNL_mem 526 (by decide +kernel) rfl
theorem zds_X5_put : yX5_put.cls ≠ "java/lang/invoke/MethodHandle" ∧ yX5_put.cls ≠ "java/lang/invoke/VarHandle" ∧ (parseMethodDescriptor yX5_put.desc).map (fun d => d.parameters.length) = some 3 := ⟨by decide +kernel, by decide +kernel, by decide +kernel⟩
theorem zw_399 : Cond.code yX5_put cX5_put 4 none ∈ zTB := zTB_mem 529 (by decide +kernel) rfl
theorem zw_398 : Cond.instanceMethod yX5_put ∈ zTB := zTB_mem 528 (by decide +kernel) rfl
theorem zsel_X5_put : Cond.selects yX5_put.cls yX5_put yX5_put ∈ zTB := zTB_mem 17 (by decide +kernel) rfl
theorem zw_36 : Cond.fieldLink RX3 25 (TX3 4).1 (TX3 4).2.1 (TX3 4).2.2.1 ∈ zTB := zTB_mem 166 (by decide +kernel) rfl
theorem zw_404 : Cond.methodLinkNest RX3 79 yX5_add "StampSheets" ∈ zNL := zNL_mem 534 (by decide +kernel) rfl
theorem zds_X5_add : yX5_add.cls ≠ "java/lang/invoke/MethodHandle" ∧ yX5_add.cls ≠ "java/lang/invoke/VarHandle" ∧ (parseMethodDescriptor yX5_add.desc).map (fun d => d.parameters.length) = some 2 := ⟨by decide +kernel, by decide +kernel, by decide +kernel⟩
theorem zw_407 : Cond.code yX5_add cX5_add 3 none ∈ zTB := zTB_mem 537 (by decide +kernel) rfl
theorem zw_406 : Cond.instanceMethod yX5_add ∈ zTB := zTB_mem 536 (by decide +kernel) rfl
theorem zsel_X5_add : Cond.selects yX5_add.cls yX5_add yX5_add ∈ zTB := zTB_mem 19 (by decide +kernel) rfl
theorem zw_37 : Cond.fieldLink RX3 28 (TX3 5).1 (TX3 5).2.1 (TX3 5).2.2.1 ∈ zTB := zTB_mem 167 (by decide +kernel) rfl
theorem zw_38 : Cond.fieldLink RX3 31 (TX3 6).1 (TX3 6).2.1 (TX3 6).2.2.1 ∈ zTB := zTB_mem 168 (by decide +kernel) rfl
theorem zw_34 : Cond.fieldLink RX3 22 (TX3 3).1 (TX3 3).2.1 (TX3 3).2.2.1 ∈ zTB := zTB_mem 164 (by decide +kernel) rfl
theorem zw_353 : Cond.methodLink RX3 83 yX3_isFigureSign ∈ zTB := zTB_mem 483 (by decide +kernel) rfl
theorem zds_X3_isFigureSign : yX3_isFigureSign.cls ≠ "java/lang/invoke/MethodHandle" ∧ yX3_isFigureSign.cls ≠ "java/lang/invoke/VarHandle" ∧ (parseMethodDescriptor yX3_isFigureSign.desc).map (fun d => d.parameters.length) = some 1 := ⟨by decide +kernel, by decide +kernel, by decide +kernel⟩
theorem zw_355 : Cond.code yX3_isFigureSign cX3_isFigureSign 1 (some .boolean) ∈ zTB := zTB_mem 485 (by decide +kernel) rfl
theorem zw_354 : Cond.static yX3_isFigureSign ∈ zTB := zTB_mem 484 (by decide +kernel) rfl
theorem zw_356 : Cond.methodLink RX3 86 yX3_stepOverNumber ∈ zTB := zTB_mem 486 (by decide +kernel) rfl
theorem zds_X3_stepOverNumber : yX3_stepOverNumber.cls ≠ "java/lang/invoke/MethodHandle" ∧ yX3_stepOverNumber.cls ≠ "java/lang/invoke/VarHandle" ∧ (parseMethodDescriptor yX3_stepOverNumber.desc).map (fun d => d.parameters.length) = some 0 := ⟨by decide +kernel, by decide +kernel, by decide +kernel⟩
theorem zw_359 : Cond.code yX3_stepOverNumber cX3_stepOverNumber 1 none ∈ zTB := zTB_mem 489 (by decide +kernel) rfl
theorem zw_358 : Cond.instanceMethod yX3_stepOverNumber ∈ zTB := zTB_mem 488 (by decide +kernel) rfl
theorem zsel_X3_stepOverNumber : Cond.selects yX3_stepOverNumber.cls yX3_stepOverNumber yX3_stepOverNumber ∈ zTB := zTB_mem 8 (by decide +kernel) rfl
theorem zw_239 : Cond.fieldLink RX4 15 (TX4 1).1 (TX4 1).2.1 (TX4 1).2.2.1 ∈ zTB := zTB_mem 369 (by decide +kernel) rfl
theorem zw_241 : Cond.fieldLink RX4 19 (TX4 2).1 (TX4 2).2.1 (TX4 2).2.2.1 ∈ zTB := zTB_mem 371 (by decide +kernel) rfl
theorem zw_243 : Cond.fieldLink RX4 23 (TX4 3).1 (TX4 3).2.1 (TX4 3).2.2.1 ∈ zTB := zTB_mem 373 (by decide +kernel) rfl
theorem zw_236 : Cond.fieldLink RX4 9 (TX4 0).1 (TX4 0).2.1 (TX4 0).2.2.1 ∈ zTB := zTB_mem 366 (by decide +kernel) rfl
theorem zw_302 : Cond.methodLink RX4 26 yJ7_fill_53178 ∈ zTB := zTB_mem 432 (by decide +kernel) rfl
theorem zw_62 : Cond.fieldLink RX5 9 (TX5 0).1 (TX5 0).2.1 (TX5 0).2.2.1 ∈ zTB := zTB_mem 192 (by decide +kernel) rfl
theorem zw_383 : Cond.methodLink RX5 55 yJ9_min_7cf53 ∈ zTB := zTB_mem 513 (by decide +kernel) rfl
theorem zw_64 : Cond.fieldLink RX5 15 (TX5 1).1 (TX5 1).2.1 (TX5 1).2.2.1 ∈ zTB := zTB_mem 194 (by decide +kernel) rfl
theorem zw_68 : Cond.fieldLink RX5 18 (TX5 2).1 (TX5 2).2.1 (TX5 2).2.2.1 ∈ zTB := zTB_mem 198 (by decide +kernel) rfl
theorem zw_71 : Cond.fieldLink RX5 21 (TX5 3).1 (TX5 3).2.1 (TX5 3).2.2.1 ∈ zTB := zTB_mem 201 (by decide +kernel) rfl
theorem zw_75 : Cond.fieldLink RX5 24 (TX5 4).1 (TX5 4).2.1 (TX5 4).2.2.1 ∈ zTB := zTB_mem 205 (by decide +kernel) rfl
theorem zw_78 : Cond.fieldLink RX5 27 (TX5 5).1 (TX5 5).2.1 (TX5 5).2.2.1 ∈ zTB := zTB_mem 208 (by decide +kernel) rfl
theorem zw_82 : Cond.fieldLink RX5 30 (TX5 6).1 (TX5 6).2.1 (TX5 6).2.2.1 ∈ zTB := zTB_mem 212 (by decide +kernel) rfl
theorem zw_85 : Cond.fieldLink RX5 33 (TX5 7).1 (TX5 7).2.1 (TX5 7).2.2.1 ∈ zTB := zTB_mem 215 (by decide +kernel) rfl
theorem zw_86 : Cond.fieldLink RX5 36 (TX5 8).1 (TX5 8).2.1 (TX5 8).2.2.1 ∈ zTB := zTB_mem 216 (by decide +kernel) rfl
theorem zw_384 : Cond.methodLink RX5 61 yX5_findNext ∈ zTB := zTB_mem 514 (by decide +kernel) rfl
theorem zds_X5_findNext : yX5_findNext.cls ≠ "java/lang/invoke/MethodHandle" ∧ yX5_findNext.cls ≠ "java/lang/invoke/VarHandle" ∧ (parseMethodDescriptor yX5_findNext.desc).map (fun d => d.parameters.length) = some 1 := ⟨by decide +kernel, by decide +kernel, by decide +kernel⟩
theorem zw_387 : Cond.code yX5_findNext cX5_findNext 3 (some .int) ∈ zTB := zTB_mem 517 (by decide +kernel) rfl
theorem zw_386 : Cond.instanceMethod yX5_findNext ∈ zTB := zTB_mem 516 (by decide +kernel) rfl
theorem zsel_X5_findNext : Cond.selects yX5_findNext.cls yX5_findNext yX5_findNext ∈ zTB := zTB_mem 14 (by decide +kernel) rfl
theorem zw_89 : Cond.fieldLink RX5 40 (TX5 9).1 (TX5 9).2.1 (TX5 9).2.2.1 ∈ zTB := zTB_mem 219 (by decide +kernel) rfl
theorem zw_92 : Cond.fieldLink RX5 43 (TX5 10).1 (TX5 10).2.1 (TX5 10).2.2.1 ∈ zTB := zTB_mem 222 (by decide +kernel) rfl
theorem zw_96 : Cond.fieldLink RX5 46 (TX5 11).1 (TX5 11).2.1 (TX5 11).2.2.1 ∈ zTB := zTB_mem 226 (by decide +kernel) rfl
theorem zw_98 : Cond.fieldLink RX5 49 (TX5 12).1 (TX5 12).2.1 (TX5 12).2.2.1 ∈ zTB := zTB_mem 228 (by decide +kernel) rfl
theorem zw_100 : Cond.fieldLink RX5 52 (TX5 13).1 (TX5 13).2.1 (TX5 13).2.2.1 ∈ zTB := zTB_mem 230 (by decide +kernel) rfl
theorem zw_417 : Cond.methodLink RX5 65 arraycopyName ∈ zTB := zTB_mem 547 (by decide +kernel) rfl
theorem zw_327 : Cond.native arraycopyName ∈ zTB := zTB_mem 457 (by decide +kernel) rfl
theorem zw_326 : Cond.static arraycopyName ∈ zTB := zTB_mem 456 (by decide +kernel) rfl
theorem zw_11 : Cond.initialized "java/lang/System" ∈ zTB := zTB_mem 141 (by decide +kernel) rfl
theorem zw_559 : Cond.methodLink RX5 71 yX5_isServed ∈ zTB := zTB_mem 689 (by decide +kernel) rfl
theorem zw_541 : Cond.methodLink RX5 75 yX5_isOn ∈ zTB := zTB_mem 671 (by decide +kernel) rfl
theorem zds_X5_isOn : yX5_isOn.cls ≠ "java/lang/invoke/MethodHandle" ∧ yX5_isOn.cls ≠ "java/lang/invoke/VarHandle" ∧ (parseMethodDescriptor yX5_isOn.desc).map (fun d => d.parameters.length) = some 1 := ⟨by decide +kernel, by decide +kernel, by decide +kernel⟩
theorem zw_512 : Cond.code yX5_isOn cX5_isOn 2 (some .boolean) ∈ zTB := zTB_mem 642 (by decide +kernel) rfl
theorem zw_511 : Cond.instanceMethod yX5_isOn ∈ zTB := zTB_mem 641 (by decide +kernel) rfl
theorem zsel_X5_isOn : Cond.selects yX5_isOn.cls yX5_isOn yX5_isOn ∈ zTB := zTB_mem 37 (by decide +kernel) rfl
theorem zw_546 : Cond.constant RX5 78 (-1000000) ∈ zTB := zTB_mem 676 (by decide +kernel) rfl
theorem zw_477 : Cond.methodLink RX5 79 yX5_payOfStamp ∈ zTB := zTB_mem 607 (by decide +kernel) rfl
theorem zds_X5_payOfStamp : yX5_payOfStamp.cls ≠ "java/lang/invoke/MethodHandle" ∧ yX5_payOfStamp.cls ≠ "java/lang/invoke/VarHandle" ∧ (parseMethodDescriptor yX5_payOfStamp.desc).map (fun d => d.parameters.length) = some 2 := ⟨by decide +kernel, by decide +kernel, by decide +kernel⟩
theorem zw_480 : Cond.code yX5_payOfStamp cX5_payOfStamp 3 (some .int) ∈ zTB := zTB_mem 610 (by decide +kernel) rfl
theorem zw_479 : Cond.instanceMethod yX5_payOfStamp ∈ zTB := zTB_mem 609 (by decide +kernel) rfl
theorem zsel_X5_payOfStamp : Cond.selects yX5_payOfStamp.cls yX5_payOfStamp yX5_payOfStamp ∈ zTB := zTB_mem 32 (by decide +kernel) rfl
theorem zw_481 : Cond.methodLink RX5 82 yJ6_bitCount_0f7a4 ∈ zTB := zTB_mem 611 (by decide +kernel) rfl
theorem zw_575 : Cond.methodLink RX5 87 yX5_nextTo ∈ zTB := zTB_mem 705 (by decide +kernel) rfl
theorem zds_X5_nextTo : yX5_nextTo.cls ≠ "java/lang/invoke/MethodHandle" ∧ yX5_nextTo.cls ≠ "java/lang/invoke/VarHandle" ∧ (parseMethodDescriptor yX5_nextTo.desc).map (fun d => d.parameters.length) = some 1 := ⟨by decide +kernel, by decide +kernel, by decide +kernel⟩
theorem zw_578 : Cond.code yX5_nextTo cX5_nextTo 4 (some .int) ∈ zTB := zTB_mem 708 (by decide +kernel) rfl
theorem zw_577 : Cond.instanceMethod yX5_nextTo ∈ zTB := zTB_mem 707 (by decide +kernel) rfl
theorem zsel_X5_nextTo : Cond.selects yX5_nextTo.cls yX5_nextTo yX5_nextTo ∈ zTB := zTB_mem 45 (by decide +kernel) rfl
theorem zw_568 : Cond.methodLink RX5 90 yJ6_lowestOneBit_0f7a4 ∈ zTB := zTB_mem 698 (by decide +kernel) rfl
theorem zw_571 : Cond.methodLink RX5 93 yX5_partAround ∈ zTB := zTB_mem 701 (by decide +kernel) rfl
theorem zds_X5_partAround : yX5_partAround.cls ≠ "java/lang/invoke/MethodHandle" ∧ yX5_partAround.cls ≠ "java/lang/invoke/VarHandle" ∧ (parseMethodDescriptor yX5_partAround.desc).map (fun d => d.parameters.length) = some 2 := ⟨by decide +kernel, by decide +kernel, by decide +kernel⟩
theorem zw_574 : Cond.code yX5_partAround cX5_partAround 5 (some .int) ∈ zTB := zTB_mem 704 (by decide +kernel) rfl
theorem zw_573 : Cond.instanceMethod yX5_partAround ∈ zTB := zTB_mem 703 (by decide +kernel) rfl
theorem zsel_X5_partAround : Cond.selects yX5_partAround.cls yX5_partAround yX5_partAround ∈ zTB := zTB_mem 44 (by decide +kernel) rfl
theorem zw_749 : Cond.methodLink RX5 96 yX5_stepsBetween ∈ zTB := zTB_mem 879 (by decide +kernel) rfl
theorem zds_X5_stepsBetween : yX5_stepsBetween.cls ≠ "java/lang/invoke/MethodHandle" ∧ yX5_stepsBetween.cls ≠ "java/lang/invoke/VarHandle" ∧ (parseMethodDescriptor yX5_stepsBetween.desc).map (fun d => d.parameters.length) = some 2 := ⟨by decide +kernel, by decide +kernel, by decide +kernel⟩
theorem zw_744 : Cond.code yX5_stepsBetween cX5_stepsBetween 5 (some .int) ∈ zTB := zTB_mem 874 (by decide +kernel) rfl
theorem zw_743 : Cond.instanceMethod yX5_stepsBetween ∈ zTB := zTB_mem 873 (by decide +kernel) rfl
theorem zsel_X5_stepsBetween : Cond.selects yX5_stepsBetween.cls yX5_stepsBetween yX5_stepsBetween ∈ zTB := zTB_mem 70 (by decide +kernel) rfl
theorem zw_223 : Cond.fieldLink RX6 18 (TX6 2).1 (TX6 2).2.1 (TX6 2).2.2.1 ∈ zTB := zTB_mem 353 (by decide +kernel) rfl
theorem zw_237 : Cond.fieldLinkNest RX6 22 (TX4 0).1 (TX4 0).2.1 (TX4 0).2.2.1 "StampSheets" ∈ zNL := zNL_mem 367 (by decide +kernel) rfl
theorem zw_221 : Cond.fieldLink RX6 9 (TX6 0).1 (TX6 0).2.1 (TX6 0).2.2.1 ∈ zTB := zTB_mem 351 (by decide +kernel) rfl
theorem zw_222 : Cond.fieldLink RX6 15 (TX6 1).1 (TX6 1).2.1 (TX6 1).2.2.1 ∈ zTB := zTB_mem 352 (by decide +kernel) rfl
theorem zw_782 : Cond.methodLinkNest RX6 27 yX5_paysOf "StampSheets" ∈ zNL := zNL_mem 912 (by decide +kernel) rfl
theorem zw_289 : Cond.methodLink RX7 69 yX7_isRow ∈ zTB := zTB_mem 419 (by decide +kernel) rfl
theorem zds_X7_isRow : yX7_isRow.cls ≠ "java/lang/invoke/MethodHandle" ∧ yX7_isRow.cls ≠ "java/lang/invoke/VarHandle" ∧ (parseMethodDescriptor yX7_isRow.desc).map (fun d => d.parameters.length) = some 1 := ⟨by decide +kernel, by decide +kernel, by decide +kernel⟩
theorem zw_291 : Cond.code yX7_isRow cX7_isRow 1 (some .boolean) ∈ zTB := zTB_mem 421 (by decide +kernel) rfl
theorem zw_290 : Cond.static yX7_isRow ∈ zTB := zTB_mem 420 (by decide +kernel) rfl
theorem zw_292 : Cond.constant RX7 73 (-1000001) ∈ zTB := zTB_mem 422 (by decide +kernel) rfl
theorem zw_293 : Cond.methodLink RX7 74 yX7_found ∈ zTB := zTB_mem 423 (by decide +kernel) rfl
theorem zds_X7_found : yX7_found.cls ≠ "java/lang/invoke/MethodHandle" ∧ yX7_found.cls ≠ "java/lang/invoke/VarHandle" ∧ (parseMethodDescriptor yX7_found.desc).map (fun d => d.parameters.length) = some 1 := ⟨by decide +kernel, by decide +kernel, by decide +kernel⟩
theorem zw_296 : Cond.code yX7_found cX7_found 2 (some .int) ∈ zTB := zTB_mem 426 (by decide +kernel) rfl
theorem zw_295 : Cond.instanceMethod yX7_found ∈ zTB := zTB_mem 425 (by decide +kernel) rfl
theorem zsel_X7_found : Cond.selects yX7_found.cls yX7_found yX7_found ∈ zTB := zTB_mem 0 (by decide +kernel) rfl
theorem zw_254 : Cond.fieldLink RX7 11 (TX7 0).1 (TX7 0).2.1 (TX7 0).2.2.1 ∈ zTB := zTB_mem 384 (by decide +kernel) rfl
theorem zw_298 : Cond.methodLinkNest RX7 78 yX4_begin "StampSheets" ∈ zNL := zNL_mem 428 (by decide +kernel) rfl
theorem zds_X4_begin : yX4_begin.cls ≠ "java/lang/invoke/MethodHandle" ∧ yX4_begin.cls ≠ "java/lang/invoke/VarHandle" ∧ (parseMethodDescriptor yX4_begin.desc).map (fun d => d.parameters.length) = some 2 := ⟨by decide +kernel, by decide +kernel, by decide +kernel⟩
theorem zw_301 : Cond.code yX4_begin cX4_begin 3 none ∈ zTB := zTB_mem 431 (by decide +kernel) rfl
theorem zw_8 : Cond.initialized RX4 ∈ zTB := zTB_mem 138 (by decide +kernel) rfl
theorem zw_300 : Cond.instanceMethod yX4_begin ∈ zTB := zTB_mem 430 (by decide +kernel) rfl
theorem zsel_X4_begin : Cond.selects yX4_begin.cls yX4_begin yX4_begin ∈ zTB := zTB_mem 1 (by decide +kernel) rfl
theorem zw_305 : Cond.methodLink RX7 82 yX7_fine ∈ zTB := zTB_mem 435 (by decide +kernel) rfl
theorem zds_X7_fine : yX7_fine.cls ≠ "java/lang/invoke/MethodHandle" ∧ yX7_fine.cls ≠ "java/lang/invoke/VarHandle" ∧ (parseMethodDescriptor yX7_fine.desc).map (fun d => d.parameters.length) = some 1 := ⟨by decide +kernel, by decide +kernel, by decide +kernel⟩
theorem zw_308 : Cond.code yX7_fine cX7_fine 2 (some .int) ∈ zTB := zTB_mem 438 (by decide +kernel) rfl
theorem zw_307 : Cond.instanceMethod yX7_fine ∈ zTB := zTB_mem 437 (by decide +kernel) rfl
theorem zsel_X7_fine : Cond.selects yX7_fine.cls yX7_fine yX7_fine ∈ zTB := zTB_mem 2 (by decide +kernel) rfl
theorem zw_240 : Cond.fieldLinkNest RX7 85 (TX4 1).1 (TX4 1).2.1 (TX4 1).2.2.1 "StampSheets" ∈ zNL := zNL_mem 370 (by decide +kernel) rfl
theorem zw_313 : Cond.methodLinkNest RX7 89 yX4_reaches "StampSheets" ∈ zNL := zNL_mem 443 (by decide +kernel) rfl
theorem zds_X4_reaches : yX4_reaches.cls ≠ "java/lang/invoke/MethodHandle" ∧ yX4_reaches.cls ≠ "java/lang/invoke/VarHandle" ∧ (parseMethodDescriptor yX4_reaches.desc).map (fun d => d.parameters.length) = some 2 := ⟨by decide +kernel, by decide +kernel, by decide +kernel⟩
theorem zw_316 : Cond.code yX4_reaches cX4_reaches 3 (some .boolean) ∈ zTB := zTB_mem 446 (by decide +kernel) rfl
theorem zw_315 : Cond.instanceMethod yX4_reaches ∈ zTB := zTB_mem 445 (by decide +kernel) rfl
theorem zsel_X4_reaches : Cond.selects yX4_reaches.cls yX4_reaches yX4_reaches ∈ zTB := zTB_mem 3 (by decide +kernel) rfl
theorem zw_317 : Cond.methodLinkNest RX7 93 yX4_put "StampSheets" ∈ zNL := zNL_mem 447 (by decide +kernel) rfl
theorem zds_X4_put : yX4_put.cls ≠ "java/lang/invoke/MethodHandle" ∧ yX4_put.cls ≠ "java/lang/invoke/VarHandle" ∧ (parseMethodDescriptor yX4_put.desc).map (fun d => d.parameters.length) = some 2 := ⟨by decide +kernel, by decide +kernel, by decide +kernel⟩
theorem zw_320 : Cond.code yX4_put cX4_put 3 (some .int) ∈ zTB := zTB_mem 450 (by decide +kernel) rfl
theorem zw_319 : Cond.instanceMethod yX4_put ∈ zTB := zTB_mem 449 (by decide +kernel) rfl
theorem zsel_X4_put : Cond.selects yX4_put.cls yX4_put yX4_put ∈ zTB := zTB_mem 4 (by decide +kernel) rfl
theorem zw_242 : Cond.fieldLinkNest RX7 97 (TX4 2).1 (TX4 2).2.1 (TX4 2).2.2.1 "StampSheets" ∈ zNL := zNL_mem 372 (by decide +kernel) rfl
theorem zw_238 : Cond.fieldLinkNest RX7 100 (TX4 0).1 (TX4 0).2.1 (TX4 0).2.2.1 "StampSheets" ∈ zNL := zNL_mem 368 (by decide +kernel) rfl
theorem zw_325 : Cond.methodLink RX7 104 arraycopyName ∈ zTB := zTB_mem 455 (by decide +kernel) rfl
theorem zw_244 : Cond.fieldLinkNest RX7 110 (TX4 3).1 (TX4 3).2.1 (TX4 3).2.2.1 "StampSheets" ∈ zNL := zNL_mem 374 (by decide +kernel) rfl
theorem zw_255 : Cond.fieldLink RX7 18 (TX7 1).1 (TX7 1).2.1 (TX7 1).2.2.1 ∈ zTB := zTB_mem 385 (by decide +kernel) rfl
theorem zw_336 : Cond.methodLinkNest RX7 113 yX3_append "StampSheets" ∈ zNL := zNL_mem 466 (by decide +kernel) rfl
theorem zds_X3_append : yX3_append.cls ≠ "java/lang/invoke/MethodHandle" ∧ yX3_append.cls ≠ "java/lang/invoke/VarHandle" ∧ (parseMethodDescriptor yX3_append.desc).map (fun d => d.parameters.length) = some 1 := ⟨by decide +kernel, by decide +kernel, by decide +kernel⟩
theorem zw_339 : Cond.code yX3_append cX3_append 2 (some .boolean) ∈ zTB := zTB_mem 469 (by decide +kernel) rfl
theorem zw_338 : Cond.instanceMethod yX3_append ∈ zTB := zTB_mem 468 (by decide +kernel) rfl
theorem zsel_X3_append : Cond.selects yX3_append.cls yX3_append yX3_append ∈ zTB := zTB_mem 5 (by decide +kernel) rfl
theorem zw_32 : Cond.fieldLinkNest RX7 116 (TX3 1).1 (TX3 1).2.1 (TX3 1).2.2.1 "StampSheets" ∈ zNL := zNL_mem 162 (by decide +kernel) rfl
theorem zw_340 : Cond.constant RX7 119 (-1000003) ∈ zTB := zTB_mem 470 (by decide +kernel) rfl
theorem zw_257 : Cond.fieldLink RX7 29 (TX7 3).1 (TX7 3).2.1 (TX7 3).2.2.1 ∈ zTB := zTB_mem 387 (by decide +kernel) rfl
theorem zw_345 : Cond.methodLinkNest RX7 120 yX3_read "StampSheets" ∈ zNL := zNL_mem 475 (by decide +kernel) rfl
theorem zds_X3_read : yX3_read.cls ≠ "java/lang/invoke/MethodHandle" ∧ yX3_read.cls ≠ "java/lang/invoke/VarHandle" ∧ (parseMethodDescriptor yX3_read.desc).map (fun d => d.parameters.length) = some 1 := ⟨by decide +kernel, by decide +kernel, by decide +kernel⟩
theorem zw_348 : Cond.code yX3_read cX3_read 3 (some .boolean) ∈ zTB := zTB_mem 478 (by decide +kernel) rfl
theorem zw_347 : Cond.instanceMethod yX3_read ∈ zTB := zTB_mem 477 (by decide +kernel) rfl
theorem zsel_X3_read : Cond.selects yX3_read.cls yX3_read yX3_read ∈ zTB := zTB_mem 6 (by decide +kernel) rfl
theorem zw_408 : Cond.constant RX7 124 (-1000100) ∈ zTB := zTB_mem 538 (by decide +kernel) rfl
theorem zw_35 : Cond.fieldLinkNest RX7 125 (TX3 3).1 (TX3 3).2.1 (TX3 3).2.2.1 "StampSheets" ∈ zNL := zNL_mem 165 (by decide +kernel) rfl
theorem zw_409 : Cond.methodLink RX7 128 yX7_putInPlace ∈ zTB := zTB_mem 539 (by decide +kernel) rfl
theorem zds_X7_putInPlace : yX7_putInPlace.cls ≠ "java/lang/invoke/MethodHandle" ∧ yX7_putInPlace.cls ≠ "java/lang/invoke/VarHandle" ∧ (parseMethodDescriptor yX7_putInPlace.desc).map (fun d => d.parameters.length) = some 1 := ⟨by decide +kernel, by decide +kernel, by decide +kernel⟩
theorem zw_412 : Cond.code yX7_putInPlace cX7_putInPlace 2 none ∈ zTB := zTB_mem 542 (by decide +kernel) rfl
theorem zw_411 : Cond.instanceMethod yX7_putInPlace ∈ zTB := zTB_mem 541 (by decide +kernel) rfl
theorem zsel_X7_putInPlace : Cond.selects yX7_putInPlace.cls yX7_putInPlace yX7_putInPlace ∈ zTB := zTB_mem 20 (by decide +kernel) rfl
theorem zw_256 : Cond.fieldLink RX7 25 (TX7 2).1 (TX7 2).2.1 (TX7 2).2.2.1 ∈ zTB := zTB_mem 386 (by decide +kernel) rfl
theorem zw_67 : Cond.fieldLinkNest RX7 132 (TX5 1).1 (TX5 1).2.1 (TX5 1).2.2.1 "StampSheets" ∈ zNL := zNL_mem 197 (by decide +kernel) rfl
theorem zw_39 : Cond.fieldLinkNest RX7 135 (TX3 6).1 (TX3 6).2.1 (TX3 6).2.2.1 "StampSheets" ∈ zNL := zNL_mem 169 (by decide +kernel) rfl
theorem zw_259 : Cond.fieldLink RX7 39 (TX7 5).1 (TX7 5).2.1 (TX7 5).2.2.1 ∈ zTB := zTB_mem 389 (by decide +kernel) rfl
theorem zw_143 : Cond.fieldLinkNest RX7 138 (TX0 4).1 (TX0 4).2.1 (TX0 4).2.2.1 "StampSheets" ∈ zNL := zNL_mem 273 (by decide +kernel) rfl
theorem zw_440 : Cond.constant RX7 139 (-1000002) ∈ zTB := zTB_mem 570 (by decide +kernel) rfl
theorem zw_441 : Cond.methodLinkNest RX7 140 yX0_takeBackLatest "StampSheets" ∈ zNL := zNL_mem 571 (by decide +kernel) rfl
theorem zds_X0_takeBackLatest : yX0_takeBackLatest.cls ≠ "java/lang/invoke/MethodHandle" ∧ yX0_takeBackLatest.cls ≠ "java/lang/invoke/VarHandle" ∧ (parseMethodDescriptor yX0_takeBackLatest.desc).map (fun d => d.parameters.length) = some 1 := ⟨by decide +kernel, by decide +kernel, by decide +kernel⟩
theorem zw_444 : Cond.code yX0_takeBackLatest cX0_takeBackLatest 3 none ∈ zTB := zTB_mem 574 (by decide +kernel) rfl
theorem zw_4 : Cond.initialized RX0 ∈ zTB := zTB_mem 134 (by decide +kernel) rfl
theorem zw_443 : Cond.instanceMethod yX0_takeBackLatest ∈ zTB := zTB_mem 573 (by decide +kernel) rfl
theorem zsel_X0_takeBackLatest : Cond.selects yX0_takeBackLatest.cls yX0_takeBackLatest yX0_takeBackLatest ∈ zTB := zTB_mem 24 (by decide +kernel) rfl
theorem zw_457 : Cond.methodLink RX7 143 yX7_isCustomer ∈ zTB := zTB_mem 587 (by decide +kernel) rfl
theorem zds_X7_isCustomer : yX7_isCustomer.cls ≠ "java/lang/invoke/MethodHandle" ∧ yX7_isCustomer.cls ≠ "java/lang/invoke/VarHandle" ∧ (parseMethodDescriptor yX7_isCustomer.desc).map (fun d => d.parameters.length) = some 1 := ⟨by decide +kernel, by decide +kernel, by decide +kernel⟩
theorem zw_460 : Cond.code yX7_isCustomer cX7_isCustomer 2 (some .boolean) ∈ zTB := zTB_mem 590 (by decide +kernel) rfl
theorem zw_459 : Cond.instanceMethod yX7_isCustomer ∈ zTB := zTB_mem 589 (by decide +kernel) rfl
theorem zsel_X7_isCustomer : Cond.selects yX7_isCustomer.cls yX7_isCustomer yX7_isCustomer ∈ zTB := zTB_mem 27 (by decide +kernel) rfl
theorem zw_260 : Cond.fieldLink RX7 46 (TX7 6).1 (TX7 6).2.1 (TX7 6).2.2.1 ∈ zTB := zTB_mem 390 (by decide +kernel) rfl
theorem zw_461 : Cond.methodLinkNest RX7 146 yX2_isPiece "StampSheets" ∈ zNL := zNL_mem 591 (by decide +kernel) rfl
theorem zds_X2_isPiece : yX2_isPiece.cls ≠ "java/lang/invoke/MethodHandle" ∧ yX2_isPiece.cls ≠ "java/lang/invoke/VarHandle" ∧ (parseMethodDescriptor yX2_isPiece.desc).map (fun d => d.parameters.length) = some 2 := ⟨by decide +kernel, by decide +kernel, by decide +kernel⟩
theorem zw_464 : Cond.code yX2_isPiece cX2_isPiece 3 (some .boolean) ∈ zTB := zTB_mem 594 (by decide +kernel) rfl
theorem zw_463 : Cond.instanceMethod yX2_isPiece ∈ zTB := zTB_mem 593 (by decide +kernel) rfl
theorem zsel_X2_isPiece : Cond.selects yX2_isPiece.cls yX2_isPiece yX2_isPiece ∈ zTB := zTB_mem 28 (by decide +kernel) rfl
theorem zw_469 : Cond.methodLinkNest RX7 150 yX5_isServed "StampSheets" ∈ zNL := zNL_mem 599 (by decide +kernel) rfl
theorem zw_473 : Cond.methodLinkNest RX7 153 yX5_paysOf "StampSheets" ∈ zNL := zNL_mem 603 (by decide +kernel) rfl
theorem zw_482 : Cond.methodLinkNest RX7 156 yX5_suits "StampSheets" ∈ zNL := zNL_mem 612 (by decide +kernel) rfl
theorem zw_486 : Cond.methodLinkNest RX7 159 yX5_tearsOf "StampSheets" ∈ zNL := zNL_mem 616 (by decide +kernel) rfl
theorem zw_490 : Cond.methodLinkNest RX7 162 yX5_sell "StampSheets" ∈ zNL := zNL_mem 620 (by decide +kernel) rfl
theorem zw_491 : Cond.methodLinkNest RX7 166 yX0_keep "StampSheets" ∈ zNL := zNL_mem 621 (by decide +kernel) rfl
theorem zds_X0_keep : yX0_keep.cls ≠ "java/lang/invoke/MethodHandle" ∧ yX0_keep.cls ≠ "java/lang/invoke/VarHandle" ∧ (parseMethodDescriptor yX0_keep.desc).map (fun d => d.parameters.length) = some 3 := ⟨by decide +kernel, by decide +kernel, by decide +kernel⟩
theorem zw_494 : Cond.code yX0_keep cX0_keep 4 none ∈ zTB := zTB_mem 624 (by decide +kernel) rfl
theorem zw_493 : Cond.instanceMethod yX0_keep ∈ zTB := zTB_mem 623 (by decide +kernel) rfl
theorem zsel_X0_keep : Cond.selects yX0_keep.cls yX0_keep yX0_keep ∈ zTB := zTB_mem 35 (by decide +kernel) rfl
theorem zw_101 : Cond.fieldLinkNest RX7 169 (TX5 13).1 (TX5 13).2.1 (TX5 13).2.2.1 "StampSheets" ∈ zNL := zNL_mem 231 (by decide +kernel) rfl
theorem zw_500 : Cond.methodLinkNest RX7 172 yX5_takeBack "StampSheets" ∈ zNL := zNL_mem 630 (by decide +kernel) rfl
theorem zw_505 : Cond.methodLink RX7 176 yX7_isCell ∈ zTB := zTB_mem 635 (by decide +kernel) rfl
theorem zds_X7_isCell : yX7_isCell.cls ≠ "java/lang/invoke/MethodHandle" ∧ yX7_isCell.cls ≠ "java/lang/invoke/VarHandle" ∧ (parseMethodDescriptor yX7_isCell.desc).map (fun d => d.parameters.length) = some 1 := ⟨by decide +kernel, by decide +kernel, by decide +kernel⟩
theorem zw_508 : Cond.code yX7_isCell cX7_isCell 2 (some .boolean) ∈ zTB := zTB_mem 638 (by decide +kernel) rfl
theorem zw_507 : Cond.instanceMethod yX7_isCell ∈ zTB := zTB_mem 637 (by decide +kernel) rfl
theorem zsel_X7_isCell : Cond.selects yX7_isCell.cls yX7_isCell yX7_isCell ∈ zTB := zTB_mem 36 (by decide +kernel) rfl
theorem zw_509 : Cond.methodLinkNest RX7 179 yX5_isOn "StampSheets" ∈ zNL := zNL_mem 639 (by decide +kernel) rfl
theorem zw_513 : Cond.methodLinkNest RX7 182 yX5_lose "StampSheets" ∈ zNL := zNL_mem 643 (by decide +kernel) rfl
theorem zds_X5_lose : yX5_lose.cls ≠ "java/lang/invoke/MethodHandle" ∧ yX5_lose.cls ≠ "java/lang/invoke/VarHandle" ∧ (parseMethodDescriptor yX5_lose.desc).map (fun d => d.parameters.length) = some 1 := ⟨by decide +kernel, by decide +kernel, by decide +kernel⟩
theorem zw_516 : Cond.code yX5_lose cX5_lose 2 none ∈ zTB := zTB_mem 646 (by decide +kernel) rfl
theorem zw_515 : Cond.instanceMethod yX5_lose ∈ zTB := zTB_mem 645 (by decide +kernel) rfl
theorem zsel_X5_lose : Cond.selects yX5_lose.cls yX5_lose yX5_lose ∈ zTB := zTB_mem 38 (by decide +kernel) rfl
theorem zw_80 : Cond.fieldLinkNest RX7 185 (TX5 5).1 (TX5 5).2.1 (TX5 5).2.2.1 "StampSheets" ∈ zNL := zNL_mem 210 (by decide +kernel) rfl
theorem zw_517 : Cond.methodLink RX7 188 yJ6_bitCount_0f7a4 ∈ zTB := zTB_mem 647 (by decide +kernel) rfl
theorem zw_522 : Cond.methodLink RX7 193 yX7_isFigure ∈ zTB := zTB_mem 652 (by decide +kernel) rfl
theorem zds_X7_isFigure : yX7_isFigure.cls ≠ "java/lang/invoke/MethodHandle" ∧ yX7_isFigure.cls ≠ "java/lang/invoke/VarHandle" ∧ (parseMethodDescriptor yX7_isFigure.desc).map (fun d => d.parameters.length) = some 1 := ⟨by decide +kernel, by decide +kernel, by decide +kernel⟩
theorem zw_524 : Cond.code yX7_isFigure cX7_isFigure 1 (some .boolean) ∈ zTB := zTB_mem 654 (by decide +kernel) rfl
theorem zw_523 : Cond.static yX7_isFigure ∈ zTB := zTB_mem 653 (by decide +kernel) rfl
theorem zw_95 : Cond.fieldLinkNest RX7 196 (TX5 10).1 (TX5 10).2.1 (TX5 10).2.2.1 "StampSheets" ∈ zNL := zNL_mem 225 (by decide +kernel) rfl
theorem zw_529 : Cond.methodLink RX7 199 yX7_isThere ∈ zTB := zTB_mem 659 (by decide +kernel) rfl
theorem zds_X7_isThere : yX7_isThere.cls ≠ "java/lang/invoke/MethodHandle" ∧ yX7_isThere.cls ≠ "java/lang/invoke/VarHandle" ∧ (parseMethodDescriptor yX7_isThere.desc).map (fun d => d.parameters.length) = some 0 := ⟨by decide +kernel, by decide +kernel, by decide +kernel⟩
theorem zw_532 : Cond.code yX7_isThere cX7_isThere 1 (some .boolean) ∈ zTB := zTB_mem 662 (by decide +kernel) rfl
theorem zw_531 : Cond.instanceMethod yX7_isThere ∈ zTB := zTB_mem 661 (by decide +kernel) rfl
theorem zsel_X7_isThere : Cond.selects yX7_isThere.cls yX7_isThere yX7_isThere ∈ zTB := zTB_mem 39 (by decide +kernel) rfl
theorem zw_74 : Cond.fieldLinkNest RX7 203 (TX5 3).1 (TX5 3).2.1 (TX5 3).2.2.1 "StampSheets" ∈ zNL := zNL_mem 204 (by decide +kernel) rfl
theorem zw_537 : Cond.methodLinkNest RX7 206 yX5_howIs "StampSheets" ∈ zNL := zNL_mem 667 (by decide +kernel) rfl
theorem zds_X5_howIs : yX5_howIs.cls ≠ "java/lang/invoke/MethodHandle" ∧ yX5_howIs.cls ≠ "java/lang/invoke/VarHandle" ∧ (parseMethodDescriptor yX5_howIs.desc).map (fun d => d.parameters.length) = some 1 := ⟨by decide +kernel, by decide +kernel, by decide +kernel⟩
theorem zw_540 : Cond.code yX5_howIs cX5_howIs 2 (some .int) ∈ zTB := zTB_mem 670 (by decide +kernel) rfl
theorem zw_539 : Cond.instanceMethod yX5_howIs ∈ zTB := zTB_mem 669 (by decide +kernel) rfl
theorem zsel_X5_howIs : Cond.selects yX5_howIs.cls yX5_howIs yX5_howIs ∈ zTB := zTB_mem 40 (by decide +kernel) rfl
theorem zw_88 : Cond.fieldLinkNest RX7 209 (TX5 8).1 (TX5 8).2.1 (TX5 8).2.2.1 "StampSheets" ∈ zNL := zNL_mem 218 (by decide +kernel) rfl
theorem zw_542 : Cond.methodLinkNest RX7 212 yX5_ownerOf "StampSheets" ∈ zNL := zNL_mem 672 (by decide +kernel) rfl
theorem zds_X5_ownerOf : yX5_ownerOf.cls ≠ "java/lang/invoke/MethodHandle" ∧ yX5_ownerOf.cls ≠ "java/lang/invoke/VarHandle" ∧ (parseMethodDescriptor yX5_ownerOf.desc).map (fun d => d.parameters.length) = some 1 := ⟨by decide +kernel, by decide +kernel, by decide +kernel⟩
theorem zw_545 : Cond.code yX5_ownerOf cX5_ownerOf 3 (some .int) ∈ zTB := zTB_mem 675 (by decide +kernel) rfl
theorem zw_544 : Cond.instanceMethod yX5_ownerOf ∈ zTB := zTB_mem 674 (by decide +kernel) rfl
theorem zsel_X5_ownerOf : Cond.selects yX5_ownerOf.cls yX5_ownerOf yX5_ownerOf ∈ zTB := zTB_mem 41 (by decide +kernel) rfl
theorem zw_97 : Cond.fieldLinkNest RX7 215 (TX5 11).1 (TX5 11).2.1 (TX5 11).2.2.1 "StampSheets" ∈ zNL := zNL_mem 227 (by decide +kernel) rfl
theorem zw_99 : Cond.fieldLinkNest RX7 218 (TX5 12).1 (TX5 12).2.1 (TX5 12).2.2.1 "StampSheets" ∈ zNL := zNL_mem 229 (by decide +kernel) rfl
theorem zw_555 : Cond.methodLinkNest RX7 221 yX5_served "StampSheets" ∈ zNL := zNL_mem 685 (by decide +kernel) rfl
theorem zds_X5_served : yX5_served.cls ≠ "java/lang/invoke/MethodHandle" ∧ yX5_served.cls ≠ "java/lang/invoke/VarHandle" ∧ (parseMethodDescriptor yX5_served.desc).map (fun d => d.parameters.length) = some 0 := ⟨by decide +kernel, by decide +kernel, by decide +kernel⟩
theorem zw_558 : Cond.code yX5_served cX5_served 3 (some .int) ∈ zTB := zTB_mem 688 (by decide +kernel) rfl
theorem zw_557 : Cond.instanceMethod yX5_served ∈ zTB := zTB_mem 687 (by decide +kernel) rfl
theorem zsel_X5_served : Cond.selects yX5_served.cls yX5_served yX5_served ∈ zTB := zTB_mem 42 (by decide +kernel) rfl
theorem zw_77 : Cond.fieldLinkNest RX7 225 (TX5 4).1 (TX5 4).2.1 (TX5 4).2.2.1 "StampSheets" ∈ zNL := zNL_mem 207 (by decide +kernel) rfl
theorem zw_84 : Cond.fieldLinkNest RX7 228 (TX5 6).1 (TX5 6).2.1 (TX5 6).2.2.1 "StampSheets" ∈ zNL := zNL_mem 214 (by decide +kernel) rfl
theorem zw_564 : Cond.methodLinkNest RX7 231 yX5_countParts "StampSheets" ∈ zNL := zNL_mem 694 (by decide +kernel) rfl
theorem zds_X5_countParts : yX5_countParts.cls ≠ "java/lang/invoke/MethodHandle" ∧ yX5_countParts.cls ≠ "java/lang/invoke/VarHandle" ∧ (parseMethodDescriptor yX5_countParts.desc).map (fun d => d.parameters.length) = some 1 := ⟨by decide +kernel, by decide +kernel, by decide +kernel⟩
theorem zw_567 : Cond.code yX5_countParts cX5_countParts 4 (some .int) ∈ zTB := zTB_mem 697 (by decide +kernel) rfl
theorem zw_566 : Cond.instanceMethod yX5_countParts ∈ zTB := zTB_mem 696 (by decide +kernel) rfl
theorem zsel_X5_countParts : Cond.selects yX5_countParts.cls yX5_countParts yX5_countParts ∈ zTB := zTB_mem 43 (by decide +kernel) rfl
theorem zw_583 : Cond.methodLinkNest RX7 234 yX5_partNumber "StampSheets" ∈ zNL := zNL_mem 713 (by decide +kernel) rfl
theorem zds_X5_partNumber : yX5_partNumber.cls ≠ "java/lang/invoke/MethodHandle" ∧ yX5_partNumber.cls ≠ "java/lang/invoke/VarHandle" ∧ (parseMethodDescriptor yX5_partNumber.desc).map (fun d => d.parameters.length) = some 1 := ⟨by decide +kernel, by decide +kernel, by decide +kernel⟩
theorem zw_586 : Cond.code yX5_partNumber cX5_partNumber 5 (some .int) ∈ zTB := zTB_mem 716 (by decide +kernel) rfl
theorem zw_585 : Cond.instanceMethod yX5_partNumber ∈ zTB := zTB_mem 715 (by decide +kernel) rfl
theorem zsel_X5_partNumber : Cond.selects yX5_partNumber.cls yX5_partNumber yX5_partNumber ∈ zTB := zTB_mem 46 (by decide +kernel) rfl
theorem zw_591 : Cond.methodLinkNest RX7 237 yX2_countAll "StampSheets" ∈ zNL := zNL_mem 721 (by decide +kernel) rfl
theorem zds_X2_countAll : yX2_countAll.cls ≠ "java/lang/invoke/MethodHandle" ∧ yX2_countAll.cls ≠ "java/lang/invoke/VarHandle" ∧ (parseMethodDescriptor yX2_countAll.desc).map (fun d => d.parameters.length) = some 1 := ⟨by decide +kernel, by decide +kernel, by decide +kernel⟩
theorem zw_594 : Cond.code yX2_countAll cX2_countAll 4 (some .int) ∈ zTB := zTB_mem 724 (by decide +kernel) rfl
theorem zw_593 : Cond.instanceMethod yX2_countAll ∈ zTB := zTB_mem 723 (by decide +kernel) rfl
theorem zsel_X2_countAll : Cond.selects yX2_countAll.cls yX2_countAll yX2_countAll ∈ zTB := zTB_mem 47 (by decide +kernel) rfl
theorem zw_595 : Cond.methodLinkNest RX7 241 yX2_countOf "StampSheets" ∈ zNL := zNL_mem 725 (by decide +kernel) rfl
theorem zds_X2_countOf : yX2_countOf.cls ≠ "java/lang/invoke/MethodHandle" ∧ yX2_countOf.cls ≠ "java/lang/invoke/VarHandle" ∧ (parseMethodDescriptor yX2_countOf.desc).map (fun d => d.parameters.length) = some 3 := ⟨by decide +kernel, by decide +kernel, by decide +kernel⟩
theorem zw_598 : Cond.code yX2_countOf cX2_countOf 7 (some .int) ∈ zTB := zTB_mem 728 (by decide +kernel) rfl
theorem zw_597 : Cond.instanceMethod yX2_countOf ∈ zTB := zTB_mem 727 (by decide +kernel) rfl
theorem zsel_X2_countOf : Cond.selects yX2_countOf.cls yX2_countOf yX2_countOf ∈ zTB := zTB_mem 48 (by decide +kernel) rfl
theorem zw_611 : Cond.methodLinkNest RX7 245 yX2_weigh "StampSheets" ∈ zNL := zNL_mem 741 (by decide +kernel) rfl
theorem zds_X2_weigh : yX2_weigh.cls ≠ "java/lang/invoke/MethodHandle" ∧ yX2_weigh.cls ≠ "java/lang/invoke/VarHandle" ∧ (parseMethodDescriptor yX2_weigh.desc).map (fun d => d.parameters.length) = some 1 := ⟨by decide +kernel, by decide +kernel, by decide +kernel⟩
theorem zw_614 : Cond.code yX2_weigh cX2_weigh 3 none ∈ zTB := zTB_mem 744 (by decide +kernel) rfl
theorem zw_613 : Cond.instanceMethod yX2_weigh ∈ zTB := zTB_mem 743 (by decide +kernel) rfl
theorem zsel_X2_weigh : Cond.selects yX2_weigh.cls yX2_weigh yX2_weigh ∈ zTB := zTB_mem 50 (by decide +kernel) rfl
theorem zw_616 : Cond.methodLinkNest RX7 248 yX2_greatestSum "StampSheets" ∈ zNL := zNL_mem 746 (by decide +kernel) rfl
theorem zds_X2_greatestSum : yX2_greatestSum.cls ≠ "java/lang/invoke/MethodHandle" ∧ yX2_greatestSum.cls ≠ "java/lang/invoke/VarHandle" ∧ (parseMethodDescriptor yX2_greatestSum.desc).map (fun d => d.parameters.length) = some 1 := ⟨by decide +kernel, by decide +kernel, by decide +kernel⟩
theorem zw_619 : Cond.code yX2_greatestSum cX2_greatestSum 4 (some .int) ∈ zTB := zTB_mem 749 (by decide +kernel) rfl
theorem zw_618 : Cond.instanceMethod yX2_greatestSum ∈ zTB := zTB_mem 748 (by decide +kernel) rfl
theorem zsel_X2_greatestSum : Cond.selects yX2_greatestSum.cls yX2_greatestSum yX2_greatestSum ∈ zTB := zTB_mem 51 (by decide +kernel) rfl
theorem zw_623 : Cond.methodLinkNest RX7 251 yX2_markSums "StampSheets" ∈ zNL := zNL_mem 753 (by decide +kernel) rfl
theorem zds_X2_markSums : yX2_markSums.cls ≠ "java/lang/invoke/MethodHandle" ∧ yX2_markSums.cls ≠ "java/lang/invoke/VarHandle" ∧ (parseMethodDescriptor yX2_markSums.desc).map (fun d => d.parameters.length) = some 1 := ⟨by decide +kernel, by decide +kernel, by decide +kernel⟩
theorem zw_626 : Cond.code yX2_markSums cX2_markSums 3 none ∈ zTB := zTB_mem 756 (by decide +kernel) rfl
theorem zw_625 : Cond.instanceMethod yX2_markSums ∈ zTB := zTB_mem 755 (by decide +kernel) rfl
theorem zsel_X2_markSums : Cond.selects yX2_markSums.cls yX2_markSums yX2_markSums ∈ zTB := zTB_mem 52 (by decide +kernel) rfl
theorem zw_628 : Cond.methodLinkNest RX7 254 yX2_countSums "StampSheets" ∈ zNL := zNL_mem 758 (by decide +kernel) rfl
theorem zds_X2_countSums : yX2_countSums.cls ≠ "java/lang/invoke/MethodHandle" ∧ yX2_countSums.cls ≠ "java/lang/invoke/VarHandle" ∧ (parseMethodDescriptor yX2_countSums.desc).map (fun d => d.parameters.length) = some 0 := ⟨by decide +kernel, by decide +kernel, by decide +kernel⟩
theorem zw_631 : Cond.code yX2_countSums cX2_countSums 3 (some .int) ∈ zTB := zTB_mem 761 (by decide +kernel) rfl
theorem zw_630 : Cond.instanceMethod yX2_countSums ∈ zTB := zTB_mem 760 (by decide +kernel) rfl
theorem zsel_X2_countSums : Cond.selects yX2_countSums.cls yX2_countSums yX2_countSums ∈ zTB := zTB_mem 53 (by decide +kernel) rfl
theorem zw_632 : Cond.methodLinkNest RX7 257 yX2_leastSumUnpaid "StampSheets" ∈ zNL := zNL_mem 762 (by decide +kernel) rfl
theorem zds_X2_leastSumUnpaid : yX2_leastSumUnpaid.cls ≠ "java/lang/invoke/MethodHandle" ∧ yX2_leastSumUnpaid.cls ≠ "java/lang/invoke/VarHandle" ∧ (parseMethodDescriptor yX2_leastSumUnpaid.desc).map (fun d => d.parameters.length) = some 0 := ⟨by decide +kernel, by decide +kernel, by decide +kernel⟩
theorem zw_635 : Cond.code yX2_leastSumUnpaid cX2_leastSumUnpaid 2 (some .int) ∈ zTB := zTB_mem 765 (by decide +kernel) rfl
theorem zw_634 : Cond.instanceMethod yX2_leastSumUnpaid ∈ zTB := zTB_mem 764 (by decide +kernel) rfl
theorem zsel_X2_leastSumUnpaid : Cond.selects yX2_leastSumUnpaid.cls yX2_leastSumUnpaid yX2_leastSumUnpaid ∈ zTB := zTB_mem 54 (by decide +kernel) rfl
theorem zw_641 : Cond.methodLink RX7 260 yX7_isEither ∈ zTB := zTB_mem 771 (by decide +kernel) rfl
theorem zds_X7_isEither : yX7_isEither.cls ≠ "java/lang/invoke/MethodHandle" ∧ yX7_isEither.cls ≠ "java/lang/invoke/VarHandle" ∧ (parseMethodDescriptor yX7_isEither.desc).map (fun d => d.parameters.length) = some 1 := ⟨by decide +kernel, by decide +kernel, by decide +kernel⟩
theorem zw_643 : Cond.code yX7_isEither cX7_isEither 1 (some .boolean) ∈ zTB := zTB_mem 773 (by decide +kernel) rfl
theorem zw_642 : Cond.static yX7_isEither ∈ zTB := zTB_mem 772 (by decide +kernel) rfl
theorem zw_644 : Cond.methodLinkNest RX7 263 yX2_bestFor "StampSheets" ∈ zNL := zNL_mem 774 (by decide +kernel) rfl
theorem zds_X2_bestFor : yX2_bestFor.cls ≠ "java/lang/invoke/MethodHandle" ∧ yX2_bestFor.cls ≠ "java/lang/invoke/VarHandle" ∧ (parseMethodDescriptor yX2_bestFor.desc).map (fun d => d.parameters.length) = some 2 := ⟨by decide +kernel, by decide +kernel, by decide +kernel⟩
theorem zw_647 : Cond.code yX2_bestFor cX2_bestFor 7 (some .int) ∈ zTB := zTB_mem 777 (by decide +kernel) rfl
theorem zw_646 : Cond.instanceMethod yX2_bestFor ∈ zTB := zTB_mem 776 (by decide +kernel) rfl
theorem zsel_X2_bestFor : Cond.selects yX2_bestFor.cls yX2_bestFor yX2_bestFor ∈ zTB := zTB_mem 55 (by decide +kernel) rfl
theorem zw_657 : Cond.constant RX7 267 (-1000000) ∈ zTB := zTB_mem 787 (by decide +kernel) rfl
theorem zw_662 : Cond.methodLinkNest RX7 268 yX2_countFor "StampSheets" ∈ zNL := zNL_mem 792 (by decide +kernel) rfl
theorem zds_X2_countFor : yX2_countFor.cls ≠ "java/lang/invoke/MethodHandle" ∧ yX2_countFor.cls ≠ "java/lang/invoke/VarHandle" ∧ (parseMethodDescriptor yX2_countFor.desc).map (fun d => d.parameters.length) = some 2 := ⟨by decide +kernel, by decide +kernel, by decide +kernel⟩
theorem zw_665 : Cond.code yX2_countFor cX2_countFor 5 (some .int) ∈ zTB := zTB_mem 795 (by decide +kernel) rfl
theorem zw_664 : Cond.instanceMethod yX2_countFor ∈ zTB := zTB_mem 794 (by decide +kernel) rfl
theorem zsel_X2_countFor : Cond.selects yX2_countFor.cls yX2_countFor yX2_countFor ∈ zTB := zTB_mem 57 (by decide +kernel) rfl
theorem zw_670 : Cond.methodLinkNest RX7 271 yX2_cheapestFor "StampSheets" ∈ zNL := zNL_mem 800 (by decide +kernel) rfl
theorem zds_X2_cheapestFor : yX2_cheapestFor.cls ≠ "java/lang/invoke/MethodHandle" ∧ yX2_cheapestFor.cls ≠ "java/lang/invoke/VarHandle" ∧ (parseMethodDescriptor yX2_cheapestFor.desc).map (fun d => d.parameters.length) = some 2 := ⟨by decide +kernel, by decide +kernel, by decide +kernel⟩
theorem zw_673 : Cond.code yX2_cheapestFor cX2_cheapestFor 7 (some .int) ∈ zTB := zTB_mem 803 (by decide +kernel) rfl
theorem zw_672 : Cond.instanceMethod yX2_cheapestFor ∈ zTB := zTB_mem 802 (by decide +kernel) rfl
theorem zsel_X2_cheapestFor : Cond.selects yX2_cheapestFor.cls yX2_cheapestFor yX2_cheapestFor ∈ zTB := zTB_mem 58 (by decide +kernel) rfl
theorem zw_70 : Cond.fieldLinkNest RX7 274 (TX5 2).1 (TX5 2).2.1 (TX5 2).2.2.1 "StampSheets" ∈ zNL := zNL_mem 200 (by decide +kernel) rfl
theorem zw_678 : Cond.methodLinkNest RX7 277 yX2_mostServed "StampSheets" ∈ zNL := zNL_mem 808 (by decide +kernel) rfl
theorem zds_X2_mostServed : yX2_mostServed.cls ≠ "java/lang/invoke/MethodHandle" ∧ yX2_mostServed.cls ≠ "java/lang/invoke/VarHandle" ∧ (parseMethodDescriptor yX2_mostServed.desc).map (fun d => d.parameters.length) = some 1 := ⟨by decide +kernel, by decide +kernel, by decide +kernel⟩
theorem zw_681 : Cond.code yX2_mostServed cX2_mostServed 4 (some .int) ∈ zTB := zTB_mem 811 (by decide +kernel) rfl
theorem zw_680 : Cond.instanceMethod yX2_mostServed ∈ zTB := zTB_mem 810 (by decide +kernel) rfl
theorem zsel_X2_mostServed : Cond.selects yX2_mostServed.cls yX2_mostServed yX2_mostServed ∈ zTB := zTB_mem 59 (by decide +kernel) rfl
theorem zw_709 : Cond.methodLinkNest RX7 280 yX2_pieceAmongServed "StampSheets" ∈ zNL := zNL_mem 839 (by decide +kernel) rfl
theorem zds_X2_pieceAmongServed : yX2_pieceAmongServed.cls ≠ "java/lang/invoke/MethodHandle" ∧ yX2_pieceAmongServed.cls ≠ "java/lang/invoke/VarHandle" ∧ (parseMethodDescriptor yX2_pieceAmongServed.desc).map (fun d => d.parameters.length) = some 3 := ⟨by decide +kernel, by decide +kernel, by decide +kernel⟩
theorem zw_712 : Cond.code yX2_pieceAmongServed cX2_pieceAmongServed 8 (some .int) ∈ zTB := zTB_mem 842 (by decide +kernel) rfl
theorem zw_711 : Cond.instanceMethod yX2_pieceAmongServed ∈ zTB := zTB_mem 841 (by decide +kernel) rfl
theorem zsel_X2_pieceAmongServed : Cond.selects yX2_pieceAmongServed.cls yX2_pieceAmongServed yX2_pieceAmongServed ∈ zTB := zTB_mem 65 (by decide +kernel) rfl
theorem zw_721 : Cond.methodLinkNest RX7 284 yX2_countCouplings "StampSheets" ∈ zNL := zNL_mem 851 (by decide +kernel) rfl
theorem zds_X2_countCouplings : yX2_countCouplings.cls ≠ "java/lang/invoke/MethodHandle" ∧ yX2_countCouplings.cls ≠ "java/lang/invoke/VarHandle" ∧ (parseMethodDescriptor yX2_countCouplings.desc).map (fun d => d.parameters.length) = some 1 := ⟨by decide +kernel, by decide +kernel, by decide +kernel⟩
theorem zw_724 : Cond.code yX2_countCouplings cX2_countCouplings 6 (some .int) ∈ zTB := zTB_mem 854 (by decide +kernel) rfl
theorem zw_723 : Cond.instanceMethod yX2_countCouplings ∈ zTB := zTB_mem 853 (by decide +kernel) rfl
theorem zsel_X2_countCouplings : Cond.selects yX2_countCouplings.cls yX2_countCouplings yX2_countCouplings ∈ zTB := zTB_mem 67 (by decide +kernel) rfl
theorem zw_729 : Cond.methodLink RX7 287 yX7_areTwoCells ∈ zTB := zTB_mem 859 (by decide +kernel) rfl
theorem zds_X7_areTwoCells : yX7_areTwoCells.cls ≠ "java/lang/invoke/MethodHandle" ∧ yX7_areTwoCells.cls ≠ "java/lang/invoke/VarHandle" ∧ (parseMethodDescriptor yX7_areTwoCells.desc).map (fun d => d.parameters.length) = some 2 := ⟨by decide +kernel, by decide +kernel, by decide +kernel⟩
theorem zw_732 : Cond.code yX7_areTwoCells cX7_areTwoCells 3 (some .boolean) ∈ zTB := zTB_mem 862 (by decide +kernel) rfl
theorem zw_731 : Cond.instanceMethod yX7_areTwoCells ∈ zTB := zTB_mem 861 (by decide +kernel) rfl
theorem zsel_X7_areTwoCells : Cond.selects yX7_areTwoCells.cls yX7_areTwoCells yX7_areTwoCells ∈ zTB := zTB_mem 68 (by decide +kernel) rfl
theorem zw_733 : Cond.methodLinkNest RX7 290 yX2_sideOf "StampSheets" ∈ zNL := zNL_mem 863 (by decide +kernel) rfl
theorem zds_X2_sideOf : yX2_sideOf.cls ≠ "java/lang/invoke/MethodHandle" ∧ yX2_sideOf.cls ≠ "java/lang/invoke/VarHandle" ∧ (parseMethodDescriptor yX2_sideOf.desc).map (fun d => d.parameters.length) = some 3 := ⟨by decide +kernel, by decide +kernel, by decide +kernel⟩
theorem zw_736 : Cond.code yX2_sideOf cX2_sideOf 10 (some .int) ∈ zTB := zTB_mem 866 (by decide +kernel) rfl
theorem zw_735 : Cond.instanceMethod yX2_sideOf ∈ zTB := zTB_mem 865 (by decide +kernel) rfl
theorem zsel_X2_sideOf : Cond.selects yX2_sideOf.cls yX2_sideOf yX2_sideOf ∈ zTB := zTB_mem 69 (by decide +kernel) rfl
theorem zw_741 : Cond.methodLinkNest RX7 293 yX5_stepsBetween "StampSheets" ∈ zNL := zNL_mem 871 (by decide +kernel) rfl
theorem zw_745 : Cond.methodLinkNest RX7 296 yX5_firstStep "StampSheets" ∈ zNL := zNL_mem 875 (by decide +kernel) rfl
theorem zds_X5_firstStep : yX5_firstStep.cls ≠ "java/lang/invoke/MethodHandle" ∧ yX5_firstStep.cls ≠ "java/lang/invoke/VarHandle" ∧ (parseMethodDescriptor yX5_firstStep.desc).map (fun d => d.parameters.length) = some 2 := ⟨by decide +kernel, by decide +kernel, by decide +kernel⟩
theorem zw_748 : Cond.code yX5_firstStep cX5_firstStep 6 (some .int) ∈ zTB := zTB_mem 878 (by decide +kernel) rfl
theorem zw_747 : Cond.instanceMethod yX5_firstStep ∈ zTB := zTB_mem 877 (by decide +kernel) rfl
theorem zsel_X5_firstStep : Cond.selects yX5_firstStep.cls yX5_firstStep yX5_firstStep ∈ zTB := zTB_mem 71 (by decide +kernel) rfl
theorem zw_758 : Cond.methodLink RX7 299 yX7_areRowsOf ∈ zTB := zTB_mem 888 (by decide +kernel) rfl
theorem zds_X7_areRowsOf : yX7_areRowsOf.cls ≠ "java/lang/invoke/MethodHandle" ∧ yX7_areRowsOf.cls ≠ "java/lang/invoke/VarHandle" ∧ (parseMethodDescriptor yX7_areRowsOf.desc).map (fun d => d.parameters.length) = some 3 := ⟨by decide +kernel, by decide +kernel, by decide +kernel⟩
theorem zw_760 : Cond.code yX7_areRowsOf cX7_areRowsOf 3 (some .boolean) ∈ zTB := zTB_mem 890 (by decide +kernel) rfl
theorem zw_759 : Cond.static yX7_areRowsOf ∈ zTB := zTB_mem 889 (by decide +kernel) rfl
theorem zw_761 : Cond.methodLink RX7 303 yX7_takeTold ∈ zTB := zTB_mem 891 (by decide +kernel) rfl
theorem zds_X7_takeTold : yX7_takeTold.cls ≠ "java/lang/invoke/MethodHandle" ∧ yX7_takeTold.cls ≠ "java/lang/invoke/VarHandle" ∧ (parseMethodDescriptor yX7_takeTold.desc).map (fun d => d.parameters.length) = some 5 := ⟨by decide +kernel, by decide +kernel, by decide +kernel⟩
theorem zw_764 : Cond.code yX7_takeTold cX7_takeTold 8 (some .int) ∈ zTB := zTB_mem 894 (by decide +kernel) rfl
theorem zw_763 : Cond.instanceMethod yX7_takeTold ∈ zTB := zTB_mem 893 (by decide +kernel) rfl
theorem zsel_X7_takeTold : Cond.selects yX7_takeTold.cls yX7_takeTold yX7_takeTold ∈ zTB := zTB_mem 72 (by decide +kernel) rfl
theorem zw_773 : Cond.methodLink RX7 307 yX7_kindsThatFit ∈ zTB := zTB_mem 903 (by decide +kernel) rfl
theorem zds_X7_kindsThatFit : yX7_kindsThatFit.cls ≠ "java/lang/invoke/MethodHandle" ∧ yX7_kindsThatFit.cls ≠ "java/lang/invoke/VarHandle" ∧ (parseMethodDescriptor yX7_kindsThatFit.desc).map (fun d => d.parameters.length) = some 1 := ⟨by decide +kernel, by decide +kernel, by decide +kernel⟩
theorem zw_776 : Cond.code yX7_kindsThatFit cX7_kindsThatFit 4 (some .int) ∈ zTB := zTB_mem 906 (by decide +kernel) rfl
theorem zw_775 : Cond.instanceMethod yX7_kindsThatFit ∈ zTB := zTB_mem 905 (by decide +kernel) rfl
theorem zsel_X7_kindsThatFit : Cond.selects yX7_kindsThatFit.cls yX7_kindsThatFit yX7_kindsThatFit ∈ zTB := zTB_mem 75 (by decide +kernel) rfl
theorem zw_783 : Cond.methodLink RX7 310 yX7_valuesThatFit ∈ zTB := zTB_mem 913 (by decide +kernel) rfl
theorem zds_X7_valuesThatFit : yX7_valuesThatFit.cls ≠ "java/lang/invoke/MethodHandle" ∧ yX7_valuesThatFit.cls ≠ "java/lang/invoke/VarHandle" ∧ (parseMethodDescriptor yX7_valuesThatFit.desc).map (fun d => d.parameters.length) = some 1 := ⟨by decide +kernel, by decide +kernel, by decide +kernel⟩
theorem zw_786 : Cond.code yX7_valuesThatFit cX7_valuesThatFit 4 (some .int) ∈ zTB := zTB_mem 916 (by decide +kernel) rfl
theorem zw_785 : Cond.instanceMethod yX7_valuesThatFit ∈ zTB := zTB_mem 915 (by decide +kernel) rfl
theorem zsel_X7_valuesThatFit : Cond.selects yX7_valuesThatFit.cls yX7_valuesThatFit yX7_valuesThatFit ∈ zTB := zTB_mem 77 (by decide +kernel) rfl
theorem zw_791 : Cond.methodLink RX7 313 yX7_oversThatFit ∈ zTB := zTB_mem 921 (by decide +kernel) rfl
theorem zds_X7_oversThatFit : yX7_oversThatFit.cls ≠ "java/lang/invoke/MethodHandle" ∧ yX7_oversThatFit.cls ≠ "java/lang/invoke/VarHandle" ∧ (parseMethodDescriptor yX7_oversThatFit.desc).map (fun d => d.parameters.length) = some 0 := ⟨by decide +kernel, by decide +kernel, by decide +kernel⟩
theorem zw_794 : Cond.code yX7_oversThatFit cX7_oversThatFit 3 (some .int) ∈ zTB := zTB_mem 924 (by decide +kernel) rfl
theorem zw_793 : Cond.instanceMethod yX7_oversThatFit ∈ zTB := zTB_mem 923 (by decide +kernel) rfl
theorem zsel_X7_oversThatFit : Cond.selects yX7_oversThatFit.cls yX7_oversThatFit yX7_oversThatFit ∈ zTB := zTB_mem 78 (by decide +kernel) rfl
theorem zw_795 : Cond.methodLink RX7 316 yX7_countSwaps ∈ zTB := zTB_mem 925 (by decide +kernel) rfl
theorem zds_X7_countSwaps : yX7_countSwaps.cls ≠ "java/lang/invoke/MethodHandle" ∧ yX7_countSwaps.cls ≠ "java/lang/invoke/VarHandle" ∧ (parseMethodDescriptor yX7_countSwaps.desc).map (fun d => d.parameters.length) = some 0 := ⟨by decide +kernel, by decide +kernel, by decide +kernel⟩
theorem zw_798 : Cond.code yX7_countSwaps cX7_countSwaps 4 (some .int) ∈ zTB := zTB_mem 928 (by decide +kernel) rfl
theorem zw_797 : Cond.instanceMethod yX7_countSwaps ∈ zTB := zTB_mem 927 (by decide +kernel) rfl
theorem zsel_X7_countSwaps : Cond.selects yX7_countSwaps.cls yX7_countSwaps yX7_countSwaps ∈ zTB := zTB_mem 79 (by decide +kernel) rfl
theorem zw_803 : Cond.methodLink RX7 319 yX7_firstSwap ∈ zTB := zTB_mem 933 (by decide +kernel) rfl
theorem zds_X7_firstSwap : yX7_firstSwap.cls ≠ "java/lang/invoke/MethodHandle" ∧ yX7_firstSwap.cls ≠ "java/lang/invoke/VarHandle" ∧ (parseMethodDescriptor yX7_firstSwap.desc).map (fun d => d.parameters.length) = some 0 := ⟨by decide +kernel, by decide +kernel, by decide +kernel⟩
theorem zw_806 : Cond.code yX7_firstSwap cX7_firstSwap 3 (some .int) ∈ zTB := zTB_mem 936 (by decide +kernel) rfl
theorem zw_805 : Cond.instanceMethod yX7_firstSwap ∈ zTB := zTB_mem 935 (by decide +kernel) rfl
theorem zsel_X7_firstSwap : Cond.selects yX7_firstSwap.cls yX7_firstSwap yX7_firstSwap ∈ zTB := zTB_mem 81 (by decide +kernel) rfl
theorem zw_811 : Cond.constantLong RX7 322 (-1000001) ∈ zTB := zTB_mem 941 (by decide +kernel) rfl
theorem zw_812 : Cond.constantLong RX7 324 10 ∈ zTB := zTB_mem 942 (by decide +kernel) rfl
theorem zw_813 : Cond.methodLink RX7 326 yX7_powerOf ∈ zTB := zTB_mem 943 (by decide +kernel) rfl
theorem zw_816 : Cond.methodLinkNest RX7 330 yX2_casesOfFewLost "StampSheets" ∈ zNL := zNL_mem 946 (by decide +kernel) rfl
theorem zds_X2_casesOfFewLost : yX2_casesOfFewLost.cls ≠ "java/lang/invoke/MethodHandle" ∧ yX2_casesOfFewLost.cls ≠ "java/lang/invoke/VarHandle" ∧ (parseMethodDescriptor yX2_casesOfFewLost.desc).map (fun d => d.parameters.length) = some 4 := ⟨by decide +kernel, by decide +kernel, by decide +kernel⟩
theorem zw_819 : Cond.code yX2_casesOfFewLost cX2_casesOfFewLost 9 (some .long) ∈ zTB := zTB_mem 949 (by decide +kernel) rfl
theorem zw_818 : Cond.instanceMethod yX2_casesOfFewLost ∈ zTB := zTB_mem 948 (by decide +kernel) rfl
theorem zsel_X2_casesOfFewLost : Cond.selects yX2_casesOfFewLost.cls yX2_casesOfFewLost yX2_casesOfFewLost ∈ zTB := zTB_mem 82 (by decide +kernel) rfl
theorem zw_829 : Cond.methodLink RX7 334 yX7_commonDivisor ∈ zTB := zTB_mem 959 (by decide +kernel) rfl
theorem zds_X7_commonDivisor : yX7_commonDivisor.cls ≠ "java/lang/invoke/MethodHandle" ∧ yX7_commonDivisor.cls ≠ "java/lang/invoke/VarHandle" ∧ (parseMethodDescriptor yX7_commonDivisor.desc).map (fun d => d.parameters.length) = some 2 := ⟨by decide +kernel, by decide +kernel, by decide +kernel⟩
theorem zw_831 : Cond.code yX7_commonDivisor cX7_commonDivisor 11 (some .long) ∈ zTB := zTB_mem 961 (by decide +kernel) rfl
theorem zw_830 : Cond.static yX7_commonDivisor ∈ zTB := zTB_mem 960 (by decide +kernel) rfl
theorem zw_836 : Cond.constant RX7 338 999999 ∈ zTB := zTB_mem 966 (by decide +kernel) rfl
theorem zw_413 : Cond.methodLinkNest RX7 339 yX5_become "StampSheets" ∈ zNL := zNL_mem 543 (by decide +kernel) rfl
theorem zds_X5_become : yX5_become.cls ≠ "java/lang/invoke/MethodHandle" ∧ yX5_become.cls ≠ "java/lang/invoke/VarHandle" ∧ (parseMethodDescriptor yX5_become.desc).map (fun d => d.parameters.length) = some 1 := ⟨by decide +kernel, by decide +kernel, by decide +kernel⟩
theorem zw_416 : Cond.code yX5_become cX5_become 2 none ∈ zTB := zTB_mem 546 (by decide +kernel) rfl
theorem zw_415 : Cond.instanceMethod yX5_become ∈ zTB := zTB_mem 545 (by decide +kernel) rfl
theorem zsel_X5_become : Cond.selects yX5_become.cls yX5_become yX5_become ∈ zTB := zTB_mem 21 (by decide +kernel) rfl
theorem zw_837 : Cond.constantLong RX7 342 16807 ∈ zTB := zTB_mem 967 (by decide +kernel) rfl
theorem zw_838 : Cond.constantLong RX7 344 2147483647 ∈ zTB := zTB_mem 968 (by decide +kernel) rfl
theorem zw_839 : Cond.methodLink RX7 346 yX7_liveDay ∈ zTB := zTB_mem 969 (by decide +kernel) rfl
theorem zds_X7_liveDay : yX7_liveDay.cls ≠ "java/lang/invoke/MethodHandle" ∧ yX7_liveDay.cls ≠ "java/lang/invoke/VarHandle" ∧ (parseMethodDescriptor yX7_liveDay.desc).map (fun d => d.parameters.length) = some 2 := ⟨by decide +kernel, by decide +kernel, by decide +kernel⟩
theorem zw_842 : Cond.code yX7_liveDay cX7_liveDay 6 none ∈ zTB := zTB_mem 972 (by decide +kernel) rfl
theorem zw_841 : Cond.instanceMethod yX7_liveDay ∈ zTB := zTB_mem 971 (by decide +kernel) rfl
theorem zsel_X7_liveDay : Cond.selects yX7_liveDay.cls yX7_liveDay yX7_liveDay ∈ zTB := zTB_mem 84 (by decide +kernel) rfl
theorem zw_258 : Cond.fieldLink RX7 32 (TX7 4).1 (TX7 4).2.1 (TX7 4).2.2.1 ∈ zTB := zTB_mem 388 (by decide +kernel) rfl
theorem zw_91 : Cond.fieldLinkNest RX7 350 (TX5 9).1 (TX5 9).2.1 (TX5 9).2.2.1 "StampSheets" ∈ zNL := zNL_mem 221 (by decide +kernel) rfl
theorem zw_863 : Cond.methodLinkNest RX7 353 yX1_isAlso "StampSheets" ∈ zNL := zNL_mem 993 (by decide +kernel) rfl
theorem zds_X1_isAlso : yX1_isAlso.cls ≠ "java/lang/invoke/MethodHandle" ∧ yX1_isAlso.cls ≠ "java/lang/invoke/VarHandle" ∧ (parseMethodDescriptor yX1_isAlso.desc).map (fun d => d.parameters.length) = some 2 := ⟨by decide +kernel, by decide +kernel, by decide +kernel⟩
theorem zw_865 : Cond.code yX1_isAlso cX1_isAlso 4 (some .boolean) ∈ zTB := zTB_mem 995 (by decide +kernel) rfl
theorem zw_864 : Cond.static yX1_isAlso ∈ zTB := zTB_mem 994 (by decide +kernel) rfl
theorem zw_261 : Cond.fieldLink RX7 53 (TX7 7).1 (TX7 7).2.1 (TX7 7).2.2.1 ∈ zTB := zTB_mem 391 (by decide +kernel) rfl
theorem zw_875 : Cond.methodLinkNest RX7 356 yX1_answer "StampSheets" ∈ zNL := zNL_mem 1005 (by decide +kernel) rfl
theorem zds_X1_answer : yX1_answer.cls ≠ "java/lang/invoke/MethodHandle" ∧ yX1_answer.cls ≠ "java/lang/invoke/VarHandle" ∧ (parseMethodDescriptor yX1_answer.desc).map (fun d => d.parameters.length) = some 3 := ⟨by decide +kernel, by decide +kernel, by decide +kernel⟩
theorem zw_878 : Cond.code yX1_answer cX1_answer 4 (some .int) ∈ zTB := zTB_mem 1008 (by decide +kernel) rfl
theorem zw_877 : Cond.instanceMethod yX1_answer ∈ zTB := zTB_mem 1007 (by decide +kernel) rfl
theorem zsel_X1_answer : Cond.selects yX1_answer.cls yX1_answer yX1_answer ∈ zTB := zTB_mem 85 (by decide +kernel) rfl
theorem zw_197 : Cond.fieldLinkNest RX7 359 (TX1 1).1 (TX1 1).2.1 (TX1 1).2.2.1 "StampSheets" ∈ zNL := zNL_mem 327 (by decide +kernel) rfl
theorem zw_195 : Cond.fieldLinkNest RX7 362 (TX1 0).1 (TX1 0).2.1 (TX1 0).2.2.1 "StampSheets" ∈ zNL := zNL_mem 325 (by decide +kernel) rfl
theorem zw_906 : Cond.methodLink RX7 365 yX7_countRows ∈ zTB := zTB_mem 1036 (by decide +kernel) rfl
theorem zds_X7_countRows : yX7_countRows.cls ≠ "java/lang/invoke/MethodHandle" ∧ yX7_countRows.cls ≠ "java/lang/invoke/VarHandle" ∧ (parseMethodDescriptor yX7_countRows.desc).map (fun d => d.parameters.length) = some 0 := ⟨by decide +kernel, by decide +kernel, by decide +kernel⟩
theorem zw_909 : Cond.code yX7_countRows cX7_countRows 3 (some .int) ∈ zTB := zTB_mem 1039 (by decide +kernel) rfl
theorem zw_908 : Cond.instanceMethod yX7_countRows ∈ zTB := zTB_mem 1038 (by decide +kernel) rfl
theorem zsel_X7_countRows : Cond.selects yX7_countRows.cls yX7_countRows yX7_countRows ∈ zTB := zTB_mem 89 (by decide +kernel) rfl
theorem zw_263 : Cond.fieldLink RX7 64 (TX7 9).1 (TX7 9).2.1 (TX7 9).2.2.1 ∈ zTB := zTB_mem 393 (by decide +kernel) rfl
theorem zw_297 : Cond.constant RX7 368 (-1000010) ∈ zTB := zTB_mem 427 (by decide +kernel) rfl
theorem zw_418 : Cond.methodLinkNest RX7 369 yX2_learn "StampSheets" ∈ zNL := zNL_mem 548 (by decide +kernel) rfl
theorem zds_X2_learn : yX2_learn.cls ≠ "java/lang/invoke/MethodHandle" ∧ yX2_learn.cls ≠ "java/lang/invoke/VarHandle" ∧ (parseMethodDescriptor yX2_learn.desc).map (fun d => d.parameters.length) = some 1 := ⟨by decide +kernel, by decide +kernel, by decide +kernel⟩
theorem zw_421 : Cond.code yX2_learn cX2_learn 4 none ∈ zTB := zTB_mem 551 (by decide +kernel) rfl
theorem zw_420 : Cond.instanceMethod yX2_learn ∈ zTB := zTB_mem 550 (by decide +kernel) rfl
theorem zsel_X2_learn : Cond.selects yX2_learn.cls yX2_learn yX2_learn ∈ zTB := zTB_mem 22 (by decide +kernel) rfl
theorem zw_843 : Cond.constantLong RX7 372 3 ∈ zTB := zTB_mem 973 (by decide +kernel) rfl
theorem zw_844 : Cond.methodLink RX7 374 yX7_restBy ∈ zTB := zTB_mem 974 (by decide +kernel) rfl
theorem zds_X7_restBy : yX7_restBy.cls ≠ "java/lang/invoke/MethodHandle" ∧ yX7_restBy.cls ≠ "java/lang/invoke/VarHandle" ∧ (parseMethodDescriptor yX7_restBy.desc).map (fun d => d.parameters.length) = some 2 := ⟨by decide +kernel, by decide +kernel, by decide +kernel⟩
theorem zw_846 : Cond.code yX7_restBy cX7_restBy 3 (some .int) ∈ zTB := zTB_mem 976 (by decide +kernel) rfl
theorem zw_845 : Cond.static yX7_restBy ∈ zTB := zTB_mem 975 (by decide +kernel) rfl
theorem zw_262 : Cond.fieldLink RX7 60 (TX7 8).1 (TX7 8).2.1 (TX7 8).2.2.1 ∈ zTB := zTB_mem 392 (by decide +kernel) rfl
theorem zw_765 : Cond.methodLinkNest RX7 378 yX6_takeCells "StampSheets" ∈ zNL := zNL_mem 895 (by decide +kernel) rfl
theorem zds_X6_takeCells : yX6_takeCells.cls ≠ "java/lang/invoke/MethodHandle" ∧ yX6_takeCells.cls ≠ "java/lang/invoke/VarHandle" ∧ (parseMethodDescriptor yX6_takeCells.desc).map (fun d => d.parameters.length) = some 4 := ⟨by decide +kernel, by decide +kernel, by decide +kernel⟩
theorem zw_768 : Cond.code yX6_takeCells cX6_takeCells 8 (some .boolean) ∈ zTB := zTB_mem 898 (by decide +kernel) rfl
theorem zw_7 : Cond.initialized RX6 ∈ zTB := zTB_mem 137 (by decide +kernel) rfl
theorem zw_767 : Cond.instanceMethod yX6_takeCells ∈ zTB := zTB_mem 897 (by decide +kernel) rfl
theorem zsel_X6_takeCells : Cond.selects yX6_takeCells.cls yX6_takeCells yX6_takeCells ∈ zTB := zTB_mem 73 (by decide +kernel) rfl
theorem zw_769 : Cond.methodLinkNest RX7 382 yX6_takePays "StampSheets" ∈ zNL := zNL_mem 899 (by decide +kernel) rfl
theorem zds_X6_takePays : yX6_takePays.cls ≠ "java/lang/invoke/MethodHandle" ∧ yX6_takePays.cls ≠ "java/lang/invoke/VarHandle" ∧ (parseMethodDescriptor yX6_takePays.desc).map (fun d => d.parameters.length) = some 2 := ⟨by decide +kernel, by decide +kernel, by decide +kernel⟩
theorem zw_772 : Cond.code yX6_takePays cX6_takePays 4 none ∈ zTB := zTB_mem 902 (by decide +kernel) rfl
theorem zw_771 : Cond.instanceMethod yX6_takePays ∈ zTB := zTB_mem 901 (by decide +kernel) rfl
theorem zsel_X6_takePays : Cond.selects yX6_takePays.cls yX6_takePays yX6_takePays ∈ zTB := zTB_mem 74 (by decide +kernel) rfl
theorem zw_777 : Cond.methodLinkNest RX7 386 yX5_put "StampSheets" ∈ zNL := zNL_mem 907 (by decide +kernel) rfl
theorem zw_778 : Cond.methodLinkNest RX7 388 yX6_isSo "StampSheets" ∈ zNL := zNL_mem 908 (by decide +kernel) rfl
theorem zds_X6_isSo : yX6_isSo.cls ≠ "java/lang/invoke/MethodHandle" ∧ yX6_isSo.cls ≠ "java/lang/invoke/VarHandle" ∧ (parseMethodDescriptor yX6_isSo.desc).map (fun d => d.parameters.length) = some 1 := ⟨by decide +kernel, by decide +kernel, by decide +kernel⟩
theorem zw_781 : Cond.code yX6_isSo cX6_isSo 4 (some .boolean) ∈ zTB := zTB_mem 911 (by decide +kernel) rfl
theorem zw_780 : Cond.instanceMethod yX6_isSo ∈ zTB := zTB_mem 910 (by decide +kernel) rfl
theorem zsel_X6_isSo : Cond.selects yX6_isSo.cls yX6_isSo yX6_isSo ∈ zTB := zTB_mem 76 (by decide +kernel) rfl
theorem zw_799 : Cond.methodLink RX7 391 yX7_fitsSwapped ∈ zTB := zTB_mem 929 (by decide +kernel) rfl
theorem zds_X7_fitsSwapped : yX7_fitsSwapped.cls ≠ "java/lang/invoke/MethodHandle" ∧ yX7_fitsSwapped.cls ≠ "java/lang/invoke/VarHandle" ∧ (parseMethodDescriptor yX7_fitsSwapped.desc).map (fun d => d.parameters.length) = some 2 := ⟨by decide +kernel, by decide +kernel, by decide +kernel⟩
theorem zw_802 : Cond.code yX7_fitsSwapped cX7_fitsSwapped 3 (some .boolean) ∈ zTB := zTB_mem 932 (by decide +kernel) rfl
theorem zw_801 : Cond.instanceMethod yX7_fitsSwapped ∈ zTB := zTB_mem 931 (by decide +kernel) rfl
theorem zsel_X7_fitsSwapped : Cond.selects yX7_fitsSwapped.cls yX7_fitsSwapped yX7_fitsSwapped ∈ zTB := zTB_mem 80 (by decide +kernel) rfl
theorem zw_1002 : Cond.methodLink RX8 70 yX8_in ∈ zTB := zTB_mem 1132 (by decide +kernel) rfl
theorem zds_X8_in : yX8_in.cls ≠ "java/lang/invoke/MethodHandle" ∧ yX8_in.cls ≠ "java/lang/invoke/VarHandle" ∧ (parseMethodDescriptor yX8_in.desc).map (fun d => d.parameters.length) = some 3 := ⟨by decide +kernel, by decide +kernel, by decide +kernel⟩
theorem zw_1004 : Cond.code yX8_in cX8_in 3 (some .boolean) ∈ zTB := zTB_mem 1134 (by decide +kernel) rfl
theorem zw_9 : Cond.initialized RX8 ∈ zTB := zTB_mem 139 (by decide +kernel) rfl
theorem zw_1003 : Cond.static yX8_in ∈ zTB := zTB_mem 1133 (by decide +kernel) rfl
theorem zw_929 : Cond.fieldLink RX8 74 (TX8 4).1 (TX8 4).2.1 (TX8 4).2.2.1 ∈ zTB := zTB_mem 1059 (by decide +kernel) rfl
theorem zw_1010 : Cond.constant RX8 78 (-1000010) ∈ zTB := zTB_mem 1140 (by decide +kernel) rfl
theorem zw_999 : Cond.methodLink RX8 79 yX8_isRow ∈ zTB := zTB_mem 1129 (by decide +kernel) rfl
theorem zds_X8_isRow : yX8_isRow.cls ≠ "java/lang/invoke/MethodHandle" ∧ yX8_isRow.cls ≠ "java/lang/invoke/VarHandle" ∧ (parseMethodDescriptor yX8_isRow.desc).map (fun d => d.parameters.length) = some 1 := ⟨by decide +kernel, by decide +kernel, by decide +kernel⟩
theorem zw_1001 : Cond.code yX8_isRow cX8_isRow 1 (some .boolean) ∈ zTB := zTB_mem 1131 (by decide +kernel) rfl
theorem zw_1000 : Cond.static yX8_isRow ∈ zTB := zTB_mem 1130 (by decide +kernel) rfl
theorem zw_1005 : Cond.constant RX8 83 (-1000001) ∈ zTB := zTB_mem 1135 (by decide +kernel) rfl
theorem zw_1006 : Cond.methodLink RX8 84 yX8_finds ∈ zTB := zTB_mem 1136 (by decide +kernel) rfl
theorem zds_X8_finds : yX8_finds.cls ≠ "java/lang/invoke/MethodHandle" ∧ yX8_finds.cls ≠ "java/lang/invoke/VarHandle" ∧ (parseMethodDescriptor yX8_finds.desc).map (fun d => d.parameters.length) = some 1 := ⟨by decide +kernel, by decide +kernel, by decide +kernel⟩
theorem zw_1009 : Cond.code yX8_finds cX8_finds 2 (some .int) ∈ zTB := zTB_mem 1139 (by decide +kernel) rfl
theorem zw_1008 : Cond.instanceMethod yX8_finds ∈ zTB := zTB_mem 1138 (by decide +kernel) rfl
theorem zsel_X8_finds : Cond.selects yX8_finds.cls yX8_finds yX8_finds ∈ zTB := zTB_mem 90 (by decide +kernel) rfl
theorem zw_925 : Cond.fieldLink RX8 7 (TX8 0).1 (TX8 0).2.1 (TX8 0).2.2.1 ∈ zTB := zTB_mem 1055 (by decide +kernel) rfl
theorem zw_926 : Cond.fieldLink RX8 13 (TX8 1).1 (TX8 1).2.1 (TX8 1).2.2.1 ∈ zTB := zTB_mem 1056 (by decide +kernel) rfl
theorem zw_927 : Cond.fieldLink RX8 16 (TX8 2).1 (TX8 2).2.1 (TX8 2).2.2.1 ∈ zTB := zTB_mem 1057 (by decide +kernel) rfl
theorem zw_1019 : Cond.methodLink RX8 88 yX8_isPlace ∈ zTB := zTB_mem 1149 (by decide +kernel) rfl
theorem zds_X8_isPlace : yX8_isPlace.cls ≠ "java/lang/invoke/MethodHandle" ∧ yX8_isPlace.cls ≠ "java/lang/invoke/VarHandle" ∧ (parseMethodDescriptor yX8_isPlace.desc).map (fun d => d.parameters.length) = some 3 := ⟨by decide +kernel, by decide +kernel, by decide +kernel⟩
theorem zw_1022 : Cond.code yX8_isPlace cX8_isPlace 4 (some .boolean) ∈ zTB := zTB_mem 1152 (by decide +kernel) rfl
theorem zw_1021 : Cond.instanceMethod yX8_isPlace ∈ zTB := zTB_mem 1151 (by decide +kernel) rfl
theorem zsel_X8_isPlace : Cond.selects yX8_isPlace.cls yX8_isPlace yX8_isPlace ∈ zTB := zTB_mem 91 (by decide +kernel) rfl
theorem zw_928 : Cond.fieldLink RX8 19 (TX8 3).1 (TX8 3).2.1 (TX8 3).2.2.1 ∈ zTB := zTB_mem 1058 (by decide +kernel) rfl
theorem zw_931 : Cond.fieldLink RX8 91 (TX8 6).1 (TX8 6).2.1 (TX8 6).2.2.1 ∈ zTB := zTB_mem 1061 (by decide +kernel) rfl
theorem zw_1031 : Cond.constant RX8 94 (-1000003) ∈ zTB := zTB_mem 1161 (by decide +kernel) rfl
theorem zw_930 : Cond.fieldLink RX8 22 (TX8 5).1 (TX8 5).2.1 (TX8 5).2.2.1 ∈ zTB := zTB_mem 1060 (by decide +kernel) rfl
theorem zw_934 : Cond.fieldLink RX8 95 (TX8 9).1 (TX8 9).2.1 (TX8 9).2.2.1 ∈ zTB := zTB_mem 1064 (by decide +kernel) rfl
theorem zw_932 : Cond.fieldLink RX8 98 (TX8 7).1 (TX8 7).2.1 (TX8 7).2.2.1 ∈ zTB := zTB_mem 1062 (by decide +kernel) rfl
theorem zw_933 : Cond.fieldLink RX8 101 (TX8 8).1 (TX8 8).2.1 (TX8 8).2.2.1 ∈ zTB := zTB_mem 1063 (by decide +kernel) rfl
theorem zw_1048 : Cond.methodLink RX8 104 yX8_byteAt ∈ zTB := zTB_mem 1178 (by decide +kernel) rfl
theorem zds_X8_byteAt : yX8_byteAt.cls ≠ "java/lang/invoke/MethodHandle" ∧ yX8_byteAt.cls ≠ "java/lang/invoke/VarHandle" ∧ (parseMethodDescriptor yX8_byteAt.desc).map (fun d => d.parameters.length) = some 1 := ⟨by decide +kernel, by decide +kernel, by decide +kernel⟩
theorem zw_1051 : Cond.code yX8_byteAt cX8_byteAt 2 (some .int) ∈ zTB := zTB_mem 1181 (by decide +kernel) rfl
theorem zw_1050 : Cond.instanceMethod yX8_byteAt ∈ zTB := zTB_mem 1180 (by decide +kernel) rfl
theorem zsel_X8_byteAt : Cond.selects yX8_byteAt.cls yX8_byteAt yX8_byteAt ∈ zTB := zTB_mem 95 (by decide +kernel) rfl
theorem zw_1052 : Cond.methodLink RX8 107 yX8_wrongs ∈ zTB := zTB_mem 1182 (by decide +kernel) rfl
theorem zds_X8_wrongs : yX8_wrongs.cls ≠ "java/lang/invoke/MethodHandle" ∧ yX8_wrongs.cls ≠ "java/lang/invoke/VarHandle" ∧ (parseMethodDescriptor yX8_wrongs.desc).map (fun d => d.parameters.length) = some 1 := ⟨by decide +kernel, by decide +kernel, by decide +kernel⟩
theorem zw_1055 : Cond.code yX8_wrongs cX8_wrongs 2 (some .boolean) ∈ zTB := zTB_mem 1185 (by decide +kernel) rfl
theorem zw_1054 : Cond.instanceMethod yX8_wrongs ∈ zTB := zTB_mem 1184 (by decide +kernel) rfl
theorem zsel_X8_wrongs : Cond.selects yX8_wrongs.cls yX8_wrongs yX8_wrongs ∈ zTB := zTB_mem 96 (by decide +kernel) rfl
theorem zw_1060 : Cond.methodLink RX8 110 yX8_isFigure ∈ zTB := zTB_mem 1190 (by decide +kernel) rfl
theorem zds_X8_isFigure : yX8_isFigure.cls ≠ "java/lang/invoke/MethodHandle" ∧ yX8_isFigure.cls ≠ "java/lang/invoke/VarHandle" ∧ (parseMethodDescriptor yX8_isFigure.desc).map (fun d => d.parameters.length) = some 1 := ⟨by decide +kernel, by decide +kernel, by decide +kernel⟩
theorem zw_1062 : Cond.code yX8_isFigure cX8_isFigure 1 (some .boolean) ∈ zTB := zTB_mem 1192 (by decide +kernel) rfl
theorem zw_1061 : Cond.static yX8_isFigure ∈ zTB := zTB_mem 1191 (by decide +kernel) rfl
theorem zw_936 : Cond.fieldLink RX8 28 (TX8 11).1 (TX8 11).2.1 (TX8 11).2.2.1 ∈ zTB := zTB_mem 1066 (by decide +kernel) rfl
theorem zw_1044 : Cond.methodLink RX8 113 yX8_takes ∈ zTB := zTB_mem 1174 (by decide +kernel) rfl
theorem zds_X8_takes : yX8_takes.cls ≠ "java/lang/invoke/MethodHandle" ∧ yX8_takes.cls ≠ "java/lang/invoke/VarHandle" ∧ (parseMethodDescriptor yX8_takes.desc).map (fun d => d.parameters.length) = some 1 := ⟨by decide +kernel, by decide +kernel, by decide +kernel⟩
theorem zw_1047 : Cond.code yX8_takes cX8_takes 2 (some .boolean) ∈ zTB := zTB_mem 1177 (by decide +kernel) rfl
theorem zw_1046 : Cond.instanceMethod yX8_takes ∈ zTB := zTB_mem 1176 (by decide +kernel) rfl
theorem zsel_X8_takes : Cond.selects yX8_takes.cls yX8_takes yX8_takes ∈ zTB := zTB_mem 94 (by decide +kernel) rfl
theorem zw_1056 : Cond.methodLink RX8 116 yX8_number ∈ zTB := zTB_mem 1186 (by decide +kernel) rfl
theorem zds_X8_number : yX8_number.cls ≠ "java/lang/invoke/MethodHandle" ∧ yX8_number.cls ≠ "java/lang/invoke/VarHandle" ∧ (parseMethodDescriptor yX8_number.desc).map (fun d => d.parameters.length) = some 3 := ⟨by decide +kernel, by decide +kernel, by decide +kernel⟩
theorem zw_1059 : Cond.code yX8_number cX8_number 5 (some .boolean) ∈ zTB := zTB_mem 1189 (by decide +kernel) rfl
theorem zw_1058 : Cond.instanceMethod yX8_number ∈ zTB := zTB_mem 1188 (by decide +kernel) rfl
theorem zsel_X8_number : Cond.selects yX8_number.cls yX8_number yX8_number ∈ zTB := zTB_mem 97 (by decide +kernel) rfl
theorem zw_1067 : Cond.methodLink RX8 119 yX8_kindBy ∈ zTB := zTB_mem 1197 (by decide +kernel) rfl
theorem zds_X8_kindBy : yX8_kindBy.cls ≠ "java/lang/invoke/MethodHandle" ∧ yX8_kindBy.cls ≠ "java/lang/invoke/VarHandle" ∧ (parseMethodDescriptor yX8_kindBy.desc).map (fun d => d.parameters.length) = some 1 := ⟨by decide +kernel, by decide +kernel, by decide +kernel⟩
theorem zw_1069 : Cond.code yX8_kindBy cX8_kindBy 1 (some .int) ∈ zTB := zTB_mem 1199 (by decide +kernel) rfl
theorem zw_1068 : Cond.static yX8_kindBy ∈ zTB := zTB_mem 1198 (by decide +kernel) rfl
theorem zw_1040 : Cond.methodLink RX8 122 yX8_readsLaw ∈ zTB := zTB_mem 1170 (by decide +kernel) rfl
theorem zds_X8_readsLaw : yX8_readsLaw.cls ≠ "java/lang/invoke/MethodHandle" ∧ yX8_readsLaw.cls ≠ "java/lang/invoke/VarHandle" ∧ (parseMethodDescriptor yX8_readsLaw.desc).map (fun d => d.parameters.length) = some 0 := ⟨by decide +kernel, by decide +kernel, by decide +kernel⟩
theorem zw_1043 : Cond.code yX8_readsLaw cX8_readsLaw 2 (some .boolean) ∈ zTB := zTB_mem 1173 (by decide +kernel) rfl
theorem zw_1042 : Cond.instanceMethod yX8_readsLaw ∈ zTB := zTB_mem 1172 (by decide +kernel) rfl
theorem zsel_X8_readsLaw : Cond.selects yX8_readsLaw.cls yX8_readsLaw yX8_readsLaw ∈ zTB := zTB_mem 93 (by decide +kernel) rfl
theorem zw_1063 : Cond.methodLink RX8 126 yX8_readsStamp ∈ zTB := zTB_mem 1193 (by decide +kernel) rfl
theorem zds_X8_readsStamp : yX8_readsStamp.cls ≠ "java/lang/invoke/MethodHandle" ∧ yX8_readsStamp.cls ≠ "java/lang/invoke/VarHandle" ∧ (parseMethodDescriptor yX8_readsStamp.desc).map (fun d => d.parameters.length) = some 1 := ⟨by decide +kernel, by decide +kernel, by decide +kernel⟩
theorem zw_1066 : Cond.code yX8_readsStamp cX8_readsStamp 3 (some .boolean) ∈ zTB := zTB_mem 1196 (by decide +kernel) rfl
theorem zw_1065 : Cond.instanceMethod yX8_readsStamp ∈ zTB := zTB_mem 1195 (by decide +kernel) rfl
theorem zsel_X8_readsStamp : Cond.selects yX8_readsStamp.cls yX8_readsStamp yX8_readsStamp ∈ zTB := zTB_mem 98 (by decide +kernel) rfl
theorem zw_1070 : Cond.methodLink RX8 129 yX8_readsCustomer ∈ zTB := zTB_mem 1200 (by decide +kernel) rfl
theorem zds_X8_readsCustomer : yX8_readsCustomer.cls ≠ "java/lang/invoke/MethodHandle" ∧ yX8_readsCustomer.cls ≠ "java/lang/invoke/VarHandle" ∧ (parseMethodDescriptor yX8_readsCustomer.desc).map (fun d => d.parameters.length) = some 0 := ⟨by decide +kernel, by decide +kernel, by decide +kernel⟩
theorem zw_1073 : Cond.code yX8_readsCustomer cX8_readsCustomer 2 (some .boolean) ∈ zTB := zTB_mem 1203 (by decide +kernel) rfl
theorem zw_1072 : Cond.instanceMethod yX8_readsCustomer ∈ zTB := zTB_mem 1202 (by decide +kernel) rfl
theorem zsel_X8_readsCustomer : Cond.selects yX8_readsCustomer.cls yX8_readsCustomer yX8_readsCustomer ∈ zTB := zTB_mem 99 (by decide +kernel) rfl
theorem zw_935 : Cond.fieldLink RX8 25 (TX8 10).1 (TX8 10).2.1 (TX8 10).2.2.1 ∈ zTB := zTB_mem 1065 (by decide +kernel) rfl
theorem zw_937 : Cond.fieldLink RX8 31 (TX8 12).1 (TX8 12).2.1 (TX8 12).2.2.1 ∈ zTB := zTB_mem 1067 (by decide +kernel) rfl
theorem zw_1036 : Cond.methodLink RX8 132 yX8_reads ∈ zTB := zTB_mem 1166 (by decide +kernel) rfl
theorem zds_X8_reads : yX8_reads.cls ≠ "java/lang/invoke/MethodHandle" ∧ yX8_reads.cls ≠ "java/lang/invoke/VarHandle" ∧ (parseMethodDescriptor yX8_reads.desc).map (fun d => d.parameters.length) = some 0 := ⟨by decide +kernel, by decide +kernel, by decide +kernel⟩
theorem zw_1039 : Cond.code yX8_reads cX8_reads 2 (some .boolean) ∈ zTB := zTB_mem 1169 (by decide +kernel) rfl
theorem zw_1038 : Cond.instanceMethod yX8_reads ∈ zTB := zTB_mem 1168 (by decide +kernel) rfl
theorem zsel_X8_reads : Cond.selects yX8_reads.cls yX8_reads yX8_reads ∈ zTB := zTB_mem 92 (by decide +kernel) rfl
theorem zw_1074 : Cond.constant RX8 135 (-1000100) ∈ zTB := zTB_mem 1204 (by decide +kernel) rfl
theorem zw_1075 : Cond.methodLink RX8 136 yX8_joins ∈ zTB := zTB_mem 1205 (by decide +kernel) rfl
theorem zds_X8_joins : yX8_joins.cls ≠ "java/lang/invoke/MethodHandle" ∧ yX8_joins.cls ≠ "java/lang/invoke/VarHandle" ∧ (parseMethodDescriptor yX8_joins.desc).map (fun d => d.parameters.length) = some 0 := ⟨by decide +kernel, by decide +kernel, by decide +kernel⟩
theorem zw_1078 : Cond.code yX8_joins cX8_joins 5 none ∈ zTB := zTB_mem 1208 (by decide +kernel) rfl
theorem zw_1077 : Cond.instanceMethod yX8_joins ∈ zTB := zTB_mem 1207 (by decide +kernel) rfl
theorem zsel_X8_joins : Cond.selects yX8_joins.cls yX8_joins yX8_joins ∈ zTB := zTB_mem 100 (by decide +kernel) rfl
theorem zw_939 : Cond.fieldLink RX8 139 (TX8 14).1 (TX8 14).2.1 (TX8 14).2.2.1 ∈ zTB := zTB_mem 1069 (by decide +kernel) rfl
theorem zw_938 : Cond.fieldLink RX8 34 (TX8 13).1 (TX8 13).2.1 (TX8 13).2.2.1 ∈ zTB := zTB_mem 1068 (by decide +kernel) rfl
theorem zw_1087 : Cond.constant RX8 142 (-1000002) ∈ zTB := zTB_mem 1217 (by decide +kernel) rfl
theorem zw_1104 : Cond.methodLink RX8 143 yX8_gone ∈ zTB := zTB_mem 1234 (by decide +kernel) rfl
theorem zds_X8_gone : yX8_gone.cls ≠ "java/lang/invoke/MethodHandle" ∧ yX8_gone.cls ≠ "java/lang/invoke/VarHandle" ∧ (parseMethodDescriptor yX8_gone.desc).map (fun d => d.parameters.length) = some 0 := ⟨by decide +kernel, by decide +kernel, by decide +kernel⟩
theorem zw_1107 : Cond.code yX8_gone cX8_gone 3 (some .int) ∈ zTB := zTB_mem 1237 (by decide +kernel) rfl
theorem zw_1106 : Cond.instanceMethod yX8_gone ∈ zTB := zTB_mem 1236 (by decide +kernel) rfl
theorem zsel_X8_gone : Cond.selects yX8_gone.cls yX8_gone yX8_gone ∈ zTB := zTB_mem 104 (by decide +kernel) rfl
theorem zw_1115 : Cond.methodLink RX8 147 yX8_has ∈ zTB := zTB_mem 1245 (by decide +kernel) rfl
theorem zds_X8_has : yX8_has.cls ≠ "java/lang/invoke/MethodHandle" ∧ yX8_has.cls ≠ "java/lang/invoke/VarHandle" ∧ (parseMethodDescriptor yX8_has.desc).map (fun d => d.parameters.length) = some 2 := ⟨by decide +kernel, by decide +kernel, by decide +kernel⟩
theorem zw_1117 : Cond.code yX8_has cX8_has 2 (some .boolean) ∈ zTB := zTB_mem 1247 (by decide +kernel) rfl
theorem zw_1116 : Cond.static yX8_has ∈ zTB := zTB_mem 1246 (by decide +kernel) rfl
theorem zw_1112 : Cond.methodLink RX8 151 yX8_lowest ∈ zTB := zTB_mem 1242 (by decide +kernel) rfl
theorem zds_X8_lowest : yX8_lowest.cls ≠ "java/lang/invoke/MethodHandle" ∧ yX8_lowest.cls ≠ "java/lang/invoke/VarHandle" ∧ (parseMethodDescriptor yX8_lowest.desc).map (fun d => d.parameters.length) = some 1 := ⟨by decide +kernel, by decide +kernel, by decide +kernel⟩
theorem zw_1114 : Cond.code yX8_lowest cX8_lowest 2 (some .int) ∈ zTB := zTB_mem 1244 (by decide +kernel) rfl
theorem zw_1113 : Cond.static yX8_lowest ∈ zTB := zTB_mem 1243 (by decide +kernel) rfl
theorem zw_1118 : Cond.methodLink RX8 154 yX8_reach ∈ zTB := zTB_mem 1248 (by decide +kernel) rfl
theorem zds_X8_reach : yX8_reach.cls ≠ "java/lang/invoke/MethodHandle" ∧ yX8_reach.cls ≠ "java/lang/invoke/VarHandle" ∧ (parseMethodDescriptor yX8_reach.desc).map (fun d => d.parameters.length) = some 2 := ⟨by decide +kernel, by decide +kernel, by decide +kernel⟩
theorem zw_1121 : Cond.code yX8_reach cX8_reach 6 (some .int) ∈ zTB := zTB_mem 1251 (by decide +kernel) rfl
theorem zw_1120 : Cond.instanceMethod yX8_reach ∈ zTB := zTB_mem 1250 (by decide +kernel) rfl
theorem zsel_X8_reach : Cond.selects yX8_reach.cls yX8_reach yX8_reach ∈ zTB := zTB_mem 106 (by decide +kernel) rfl
theorem zw_1100 : Cond.methodLink RX8 158 yX8_on ∈ zTB := zTB_mem 1230 (by decide +kernel) rfl
theorem zds_X8_on : yX8_on.cls ≠ "java/lang/invoke/MethodHandle" ∧ yX8_on.cls ≠ "java/lang/invoke/VarHandle" ∧ (parseMethodDescriptor yX8_on.desc).map (fun d => d.parameters.length) = some 0 := ⟨by decide +kernel, by decide +kernel, by decide +kernel⟩
theorem zw_1103 : Cond.code yX8_on cX8_on 1 (some .int) ∈ zTB := zTB_mem 1233 (by decide +kernel) rfl
theorem zw_1102 : Cond.instanceMethod yX8_on ∈ zTB := zTB_mem 1232 (by decide +kernel) rfl
theorem zsel_X8_on : Cond.selects yX8_on.cls yX8_on yX8_on ∈ zTB := zTB_mem 103 (by decide +kernel) rfl
theorem zw_1108 : Cond.methodLink RX8 161 yX8_hangs ∈ zTB := zTB_mem 1238 (by decide +kernel) rfl
theorem zds_X8_hangs : yX8_hangs.cls ≠ "java/lang/invoke/MethodHandle" ∧ yX8_hangs.cls ≠ "java/lang/invoke/VarHandle" ∧ (parseMethodDescriptor yX8_hangs.desc).map (fun d => d.parameters.length) = some 1 := ⟨by decide +kernel, by decide +kernel, by decide +kernel⟩
theorem zw_1111 : Cond.code yX8_hangs cX8_hangs 2 (some .boolean) ∈ zTB := zTB_mem 1241 (by decide +kernel) rfl
theorem zw_1110 : Cond.instanceMethod yX8_hangs ∈ zTB := zTB_mem 1240 (by decide +kernel) rfl
theorem zsel_X8_hangs : Cond.selects yX8_hangs.cls yX8_hangs yX8_hangs ∈ zTB := zTB_mem 105 (by decide +kernel) rfl
theorem zw_1126 : Cond.methodLink RX8 164 yX8_ones ∈ zTB := zTB_mem 1256 (by decide +kernel) rfl
theorem zds_X8_ones : yX8_ones.cls ≠ "java/lang/invoke/MethodHandle" ∧ yX8_ones.cls ≠ "java/lang/invoke/VarHandle" ∧ (parseMethodDescriptor yX8_ones.desc).map (fun d => d.parameters.length) = some 1 := ⟨by decide +kernel, by decide +kernel, by decide +kernel⟩
theorem zw_1128 : Cond.code yX8_ones cX8_ones 3 (some .int) ∈ zTB := zTB_mem 1258 (by decide +kernel) rfl
theorem zw_1127 : Cond.static yX8_ones ∈ zTB := zTB_mem 1257 (by decide +kernel) rfl
theorem zw_1133 : Cond.methodLink RX8 167 yX8_tears ∈ zTB := zTB_mem 1263 (by decide +kernel) rfl
theorem zds_X8_tears : yX8_tears.cls ≠ "java/lang/invoke/MethodHandle" ∧ yX8_tears.cls ≠ "java/lang/invoke/VarHandle" ∧ (parseMethodDescriptor yX8_tears.desc).map (fun d => d.parameters.length) = some 1 := ⟨by decide +kernel, by decide +kernel, by decide +kernel⟩
theorem zw_1136 : Cond.code yX8_tears cX8_tears 4 (some .int) ∈ zTB := zTB_mem 1266 (by decide +kernel) rfl
theorem zw_1135 : Cond.instanceMethod yX8_tears ∈ zTB := zTB_mem 1265 (by decide +kernel) rfl
theorem zsel_X8_tears : Cond.selects yX8_tears.cls yX8_tears yX8_tears ∈ zTB := zTB_mem 109 (by decide +kernel) rfl
theorem zw_1092 : Cond.methodLink RX8 170 yX8_isCustomer ∈ zTB := zTB_mem 1222 (by decide +kernel) rfl
theorem zds_X8_isCustomer : yX8_isCustomer.cls ≠ "java/lang/invoke/MethodHandle" ∧ yX8_isCustomer.cls ≠ "java/lang/invoke/VarHandle" ∧ (parseMethodDescriptor yX8_isCustomer.desc).map (fun d => d.parameters.length) = some 1 := ⟨by decide +kernel, by decide +kernel, by decide +kernel⟩
theorem zw_1095 : Cond.code yX8_isCustomer cX8_isCustomer 2 (some .boolean) ∈ zTB := zTB_mem 1225 (by decide +kernel) rfl
theorem zw_1094 : Cond.instanceMethod yX8_isCustomer ∈ zTB := zTB_mem 1224 (by decide +kernel) rfl
theorem zsel_X8_isCustomer : Cond.selects yX8_isCustomer.cls yX8_isCustomer yX8_isCustomer ∈ zTB := zTB_mem 101 (by decide +kernel) rfl
theorem zw_1096 : Cond.methodLink RX8 173 yX8_isPiece ∈ zTB := zTB_mem 1226 (by decide +kernel) rfl
theorem zds_X8_isPiece : yX8_isPiece.cls ≠ "java/lang/invoke/MethodHandle" ∧ yX8_isPiece.cls ≠ "java/lang/invoke/VarHandle" ∧ (parseMethodDescriptor yX8_isPiece.desc).map (fun d => d.parameters.length) = some 1 := ⟨by decide +kernel, by decide +kernel, by decide +kernel⟩
theorem zw_1099 : Cond.code yX8_isPiece cX8_isPiece 2 (some .boolean) ∈ zTB := zTB_mem 1229 (by decide +kernel) rfl
theorem zw_1098 : Cond.instanceMethod yX8_isPiece ∈ zTB := zTB_mem 1228 (by decide +kernel) rfl
theorem zsel_X8_isPiece : Cond.selects yX8_isPiece.cls yX8_isPiece yX8_isPiece ∈ zTB := zTB_mem 102 (by decide +kernel) rfl
theorem zw_1122 : Cond.methodLink RX8 176 yX8_pays ∈ zTB := zTB_mem 1252 (by decide +kernel) rfl
theorem zds_X8_pays : yX8_pays.cls ≠ "java/lang/invoke/MethodHandle" ∧ yX8_pays.cls ≠ "java/lang/invoke/VarHandle" ∧ (parseMethodDescriptor yX8_pays.desc).map (fun d => d.parameters.length) = some 1 := ⟨by decide +kernel, by decide +kernel, by decide +kernel⟩
theorem zw_1125 : Cond.code yX8_pays cX8_pays 8 (some .int) ∈ zTB := zTB_mem 1255 (by decide +kernel) rfl
theorem zw_1124 : Cond.instanceMethod yX8_pays ∈ zTB := zTB_mem 1254 (by decide +kernel) rfl
theorem zsel_X8_pays : Cond.selects yX8_pays.cls yX8_pays yX8_pays ∈ zTB := zTB_mem 107 (by decide +kernel) rfl
theorem zw_1129 : Cond.methodLink RX8 179 yX8_keeps ∈ zTB := zTB_mem 1259 (by decide +kernel) rfl
theorem zds_X8_keeps : yX8_keeps.cls ≠ "java/lang/invoke/MethodHandle" ∧ yX8_keeps.cls ≠ "java/lang/invoke/VarHandle" ∧ (parseMethodDescriptor yX8_keeps.desc).map (fun d => d.parameters.length) = some 0 := ⟨by decide +kernel, by decide +kernel, by decide +kernel⟩
theorem zw_1132 : Cond.code yX8_keeps cX8_keeps 2 none ∈ zTB := zTB_mem 1262 (by decide +kernel) rfl
theorem zw_1131 : Cond.instanceMethod yX8_keeps ∈ zTB := zTB_mem 1261 (by decide +kernel) rfl
theorem zsel_X8_keeps : Cond.selects yX8_keeps.cls yX8_keeps yX8_keeps ∈ zTB := zTB_mem 108 (by decide +kernel) rfl
theorem zw_1137 : Cond.methodLink RX8 182 yX8_serves ∈ zTB := zTB_mem 1267 (by decide +kernel) rfl
theorem zds_X8_serves : yX8_serves.cls ≠ "java/lang/invoke/MethodHandle" ∧ yX8_serves.cls ≠ "java/lang/invoke/VarHandle" ∧ (parseMethodDescriptor yX8_serves.desc).map (fun d => d.parameters.length) = some 2 := ⟨by decide +kernel, by decide +kernel, by decide +kernel⟩
theorem zw_1140 : Cond.code yX8_serves cX8_serves 3 none ∈ zTB := zTB_mem 1270 (by decide +kernel) rfl
theorem zw_1139 : Cond.instanceMethod yX8_serves ∈ zTB := zTB_mem 1269 (by decide +kernel) rfl
theorem zsel_X8_serves : Cond.selects yX8_serves.cls yX8_serves yX8_serves ∈ zTB := zTB_mem 110 (by decide +kernel) rfl
theorem zw_1149 : Cond.methodLink RX8 186 yX8_isCell ∈ zTB := zTB_mem 1279 (by decide +kernel) rfl
theorem zds_X8_isCell : yX8_isCell.cls ≠ "java/lang/invoke/MethodHandle" ∧ yX8_isCell.cls ≠ "java/lang/invoke/VarHandle" ∧ (parseMethodDescriptor yX8_isCell.desc).map (fun d => d.parameters.length) = some 1 := ⟨by decide +kernel, by decide +kernel, by decide +kernel⟩
theorem zw_1152 : Cond.code yX8_isCell cX8_isCell 2 (some .boolean) ∈ zTB := zTB_mem 1282 (by decide +kernel) rfl
theorem zw_1151 : Cond.instanceMethod yX8_isCell ∈ zTB := zTB_mem 1281 (by decide +kernel) rfl
theorem zsel_X8_isCell : Cond.selects yX8_isCell.cls yX8_isCell yX8_isCell ∈ zTB := zTB_mem 111 (by decide +kernel) rfl
theorem zw_1169 : Cond.constant RX8 189 (-1000000) ∈ zTB := zTB_mem 1299 (by decide +kernel) rfl
theorem zw_1165 : Cond.methodLink RX8 190 yX8_ownerOf ∈ zTB := zTB_mem 1295 (by decide +kernel) rfl
theorem zds_X8_ownerOf : yX8_ownerOf.cls ≠ "java/lang/invoke/MethodHandle" ∧ yX8_ownerOf.cls ≠ "java/lang/invoke/VarHandle" ∧ (parseMethodDescriptor yX8_ownerOf.desc).map (fun d => d.parameters.length) = some 1 := ⟨by decide +kernel, by decide +kernel, by decide +kernel⟩
theorem zw_1168 : Cond.code yX8_ownerOf cX8_ownerOf 4 (some .int) ∈ zTB := zTB_mem 1298 (by decide +kernel) rfl
theorem zw_1167 : Cond.instanceMethod yX8_ownerOf ∈ zTB := zTB_mem 1297 (by decide +kernel) rfl
theorem zsel_X8_ownerOf : Cond.selects yX8_ownerOf.cls yX8_ownerOf yX8_ownerOf ∈ zTB := zTB_mem 112 (by decide +kernel) rfl
theorem zw_1178 : Cond.methodLink RX8 193 yX8_servedNow ∈ zTB := zTB_mem 1308 (by decide +kernel) rfl
theorem zds_X8_servedNow : yX8_servedNow.cls ≠ "java/lang/invoke/MethodHandle" ∧ yX8_servedNow.cls ≠ "java/lang/invoke/VarHandle" ∧ (parseMethodDescriptor yX8_servedNow.desc).map (fun d => d.parameters.length) = some 0 := ⟨by decide +kernel, by decide +kernel, by decide +kernel⟩
theorem zw_1181 : Cond.code yX8_servedNow cX8_servedNow 3 (some .int) ∈ zTB := zTB_mem 1311 (by decide +kernel) rfl
theorem zw_1180 : Cond.instanceMethod yX8_servedNow ∈ zTB := zTB_mem 1310 (by decide +kernel) rfl
theorem zsel_X8_servedNow : Cond.selects yX8_servedNow.cls yX8_servedNow yX8_servedNow ∈ zTB := zTB_mem 113 (by decide +kernel) rfl
theorem zw_1190 : Cond.methodLink RX8 196 yX8_partOf ∈ zTB := zTB_mem 1320 (by decide +kernel) rfl
theorem zds_X8_partOf : yX8_partOf.cls ≠ "java/lang/invoke/MethodHandle" ∧ yX8_partOf.cls ≠ "java/lang/invoke/VarHandle" ∧ (parseMethodDescriptor yX8_partOf.desc).map (fun d => d.parameters.length) = some 2 := ⟨by decide +kernel, by decide +kernel, by decide +kernel⟩
theorem zw_1193 : Cond.code yX8_partOf cX8_partOf 5 (some .int) ∈ zTB := zTB_mem 1323 (by decide +kernel) rfl
theorem zw_1192 : Cond.instanceMethod yX8_partOf ∈ zTB := zTB_mem 1322 (by decide +kernel) rfl
theorem zsel_X8_partOf : Cond.selects yX8_partOf.cls yX8_partOf yX8_partOf ∈ zTB := zTB_mem 115 (by decide +kernel) rfl
theorem zw_1186 : Cond.methodLink RX8 199 yX8_manyParts ∈ zTB := zTB_mem 1316 (by decide +kernel) rfl
theorem zds_X8_manyParts : yX8_manyParts.cls ≠ "java/lang/invoke/MethodHandle" ∧ yX8_manyParts.cls ≠ "java/lang/invoke/VarHandle" ∧ (parseMethodDescriptor yX8_manyParts.desc).map (fun d => d.parameters.length) = some 1 := ⟨by decide +kernel, by decide +kernel, by decide +kernel⟩
theorem zw_1189 : Cond.code yX8_manyParts cX8_manyParts 3 (some .int) ∈ zTB := zTB_mem 1319 (by decide +kernel) rfl
theorem zw_1188 : Cond.instanceMethod yX8_manyParts ∈ zTB := zTB_mem 1318 (by decide +kernel) rfl
theorem zsel_X8_manyParts : Cond.selects yX8_manyParts.cls yX8_manyParts yX8_manyParts ∈ zTB := zTB_mem 114 (by decide +kernel) rfl
theorem zw_942 : Cond.fieldLink RX8 44 (TX8 17).1 (TX8 17).2.1 (TX8 17).2.2.1 ∈ zTB := zTB_mem 1072 (by decide +kernel) rfl
theorem zw_1202 : Cond.methodLink RX8 202 yX8_isStraight ∈ zTB := zTB_mem 1332 (by decide +kernel) rfl
theorem zds_X8_isStraight : yX8_isStraight.cls ≠ "java/lang/invoke/MethodHandle" ∧ yX8_isStraight.cls ≠ "java/lang/invoke/VarHandle" ∧ (parseMethodDescriptor yX8_isStraight.desc).map (fun d => d.parameters.length) = some 1 := ⟨by decide +kernel, by decide +kernel, by decide +kernel⟩
theorem zw_1205 : Cond.code yX8_isStraight cX8_isStraight 6 (some .boolean) ∈ zTB := zTB_mem 1335 (by decide +kernel) rfl
theorem zw_1204 : Cond.instanceMethod yX8_isStraight ∈ zTB := zTB_mem 1334 (by decide +kernel) rfl
theorem zsel_X8_isStraight : Cond.selects yX8_isStraight.cls yX8_isStraight yX8_isStraight ∈ zTB := zTB_mem 116 (by decide +kernel) rfl
theorem zw_1210 : Cond.methodLink RX8 205 yX8_surveys ∈ zTB := zTB_mem 1340 (by decide +kernel) rfl
theorem zds_X8_surveys : yX8_surveys.cls ≠ "java/lang/invoke/MethodHandle" ∧ yX8_surveys.cls ≠ "java/lang/invoke/VarHandle" ∧ (parseMethodDescriptor yX8_surveys.desc).map (fun d => d.parameters.length) = some 0 := ⟨by decide +kernel, by decide +kernel, by decide +kernel⟩
theorem zw_1213 : Cond.code yX8_surveys cX8_surveys 2 none ∈ zTB := zTB_mem 1343 (by decide +kernel) rfl
theorem zw_1212 : Cond.instanceMethod yX8_surveys ∈ zTB := zTB_mem 1342 (by decide +kernel) rfl
theorem zsel_X8_surveys : Cond.selects yX8_surveys.cls yX8_surveys yX8_surveys ∈ zTB := zTB_mem 117 (by decide +kernel) rfl
theorem zw_1214 : Cond.methodLink RX8 208 yX8_paysBy ∈ zTB := zTB_mem 1344 (by decide +kernel) rfl
theorem zds_X8_paysBy : yX8_paysBy.cls ≠ "java/lang/invoke/MethodHandle" ∧ yX8_paysBy.cls ≠ "java/lang/invoke/VarHandle" ∧ (parseMethodDescriptor yX8_paysBy.desc).map (fun d => d.parameters.length) = some 1 := ⟨by decide +kernel, by decide +kernel, by decide +kernel⟩
theorem zw_1217 : Cond.code yX8_paysBy cX8_paysBy 2 (some .int) ∈ zTB := zTB_mem 1347 (by decide +kernel) rfl
theorem zw_1216 : Cond.instanceMethod yX8_paysBy ∈ zTB := zTB_mem 1346 (by decide +kernel) rfl
theorem zsel_X8_paysBy : Cond.selects yX8_paysBy.cls yX8_paysBy yX8_paysBy ∈ zTB := zTB_mem 118 (by decide +kernel) rfl
theorem zw_1226 : Cond.methodLink RX8 211 yX8_fitsFor ∈ zTB := zTB_mem 1356 (by decide +kernel) rfl
theorem zds_X8_fitsFor : yX8_fitsFor.cls ≠ "java/lang/invoke/MethodHandle" ∧ yX8_fitsFor.cls ≠ "java/lang/invoke/VarHandle" ∧ (parseMethodDescriptor yX8_fitsFor.desc).map (fun d => d.parameters.length) = some 2 := ⟨by decide +kernel, by decide +kernel, by decide +kernel⟩
theorem zw_1229 : Cond.code yX8_fitsFor cX8_fitsFor 3 (some .boolean) ∈ zTB := zTB_mem 1359 (by decide +kernel) rfl
theorem zw_1228 : Cond.instanceMethod yX8_fitsFor ∈ zTB := zTB_mem 1358 (by decide +kernel) rfl
theorem zsel_X8_fitsFor : Cond.selects yX8_fitsFor.cls yX8_fitsFor yX8_fitsFor ∈ zTB := zTB_mem 120 (by decide +kernel) rfl
theorem zw_1222 : Cond.methodLink RX8 214 yX8_bestFor ∈ zTB := zTB_mem 1352 (by decide +kernel) rfl
theorem zds_X8_bestFor : yX8_bestFor.cls ≠ "java/lang/invoke/MethodHandle" ∧ yX8_bestFor.cls ≠ "java/lang/invoke/VarHandle" ∧ (parseMethodDescriptor yX8_bestFor.desc).map (fun d => d.parameters.length) = some 1 := ⟨by decide +kernel, by decide +kernel, by decide +kernel⟩
theorem zw_1225 : Cond.code yX8_bestFor cX8_bestFor 5 (some .int) ∈ zTB := zTB_mem 1355 (by decide +kernel) rfl
theorem zw_1224 : Cond.instanceMethod yX8_bestFor ∈ zTB := zTB_mem 1354 (by decide +kernel) rfl
theorem zsel_X8_bestFor : Cond.selects yX8_bestFor.cls yX8_bestFor yX8_bestFor ∈ zTB := zTB_mem 119 (by decide +kernel) rfl
theorem zw_1246 : Cond.constantLong RX8 217 4294967295 ∈ zTB := zTB_mem 1376 (by decide +kernel) rfl
theorem zw_945 : Cond.fieldLink RX8 61 (TX8 20).1 (TX8 20).2.1 (TX8 20).2.2.1 ∈ zTB := zTB_mem 1075 (by decide +kernel) rfl
theorem zw_1247 : Cond.constantLong RX8 219 (-4294967296) ∈ zTB := zTB_mem 1377 (by decide +kernel) rfl
theorem zw_1242 : Cond.methodLink RX8 221 yX8_serveAll ∈ zTB := zTB_mem 1372 (by decide +kernel) rfl
theorem zds_X8_serveAll : yX8_serveAll.cls ≠ "java/lang/invoke/MethodHandle" ∧ yX8_serveAll.cls ≠ "java/lang/invoke/VarHandle" ∧ (parseMethodDescriptor yX8_serveAll.desc).map (fun d => d.parameters.length) = some 0 := ⟨by decide +kernel, by decide +kernel, by decide +kernel⟩
theorem zw_1245 : Cond.code yX8_serveAll cX8_serveAll 15 none ∈ zTB := zTB_mem 1375 (by decide +kernel) rfl
theorem zw_1244 : Cond.instanceMethod yX8_serveAll ∈ zTB := zTB_mem 1374 (by decide +kernel) rfl
theorem zsel_X8_serveAll : Cond.selects yX8_serveAll.cls yX8_serveAll yX8_serveAll ∈ zTB := zTB_mem 121 (by decide +kernel) rfl
theorem zw_1248 : Cond.methodLink RX8 224 yX8_can ∈ zTB := zTB_mem 1378 (by decide +kernel) rfl
theorem zds_X8_can : yX8_can.cls ≠ "java/lang/invoke/MethodHandle" ∧ yX8_can.cls ≠ "java/lang/invoke/VarHandle" ∧ (parseMethodDescriptor yX8_can.desc).map (fun d => d.parameters.length) = some 2 := ⟨by decide +kernel, by decide +kernel, by decide +kernel⟩
theorem zw_1250 : Cond.code yX8_can cX8_can 3 (some .boolean) ∈ zTB := zTB_mem 1380 (by decide +kernel) rfl
theorem zw_1249 : Cond.static yX8_can ∈ zTB := zTB_mem 1379 (by decide +kernel) rfl
theorem zw_1263 : Cond.methodLink RX8 228 yX8_stepsOf ∈ zTB := zTB_mem 1393 (by decide +kernel) rfl
theorem zds_X8_stepsOf : yX8_stepsOf.cls ≠ "java/lang/invoke/MethodHandle" ∧ yX8_stepsOf.cls ≠ "java/lang/invoke/VarHandle" ∧ (parseMethodDescriptor yX8_stepsOf.desc).map (fun d => d.parameters.length) = some 2 := ⟨by decide +kernel, by decide +kernel, by decide +kernel⟩
theorem zw_1266 : Cond.code yX8_stepsOf cX8_stepsOf 7 (some .int) ∈ zTB := zTB_mem 1396 (by decide +kernel) rfl
theorem zw_1265 : Cond.instanceMethod yX8_stepsOf ∈ zTB := zTB_mem 1395 (by decide +kernel) rfl
theorem zsel_X8_stepsOf : Cond.selects yX8_stepsOf.cls yX8_stepsOf yX8_stepsOf ∈ zTB := zTB_mem 122 (by decide +kernel) rfl
theorem zw_1275 : Cond.methodLink RX8 231 yX8_findingOf ∈ zTB := zTB_mem 1405 (by decide +kernel) rfl
theorem zds_X8_findingOf : yX8_findingOf.cls ≠ "java/lang/invoke/MethodHandle" ∧ yX8_findingOf.cls ≠ "java/lang/invoke/VarHandle" ∧ (parseMethodDescriptor yX8_findingOf.desc).map (fun d => d.parameters.length) = some 5 := ⟨by decide +kernel, by decide +kernel, by decide +kernel⟩
theorem zw_1278 : Cond.code yX8_findingOf cX8_findingOf 9 (some .int) ∈ zTB := zTB_mem 1408 (by decide +kernel) rfl
theorem zw_1277 : Cond.instanceMethod yX8_findingOf ∈ zTB := zTB_mem 1407 (by decide +kernel) rfl
theorem zsel_X8_findingOf : Cond.selects yX8_findingOf.cls yX8_findingOf yX8_findingOf ∈ zTB := zTB_mem 123 (by decide +kernel) rfl
theorem zw_1279 : Cond.methodLink RX8 235 yX8_isSo ∈ zTB := zTB_mem 1409 (by decide +kernel) rfl
theorem zds_X8_isSo : yX8_isSo.cls ≠ "java/lang/invoke/MethodHandle" ∧ yX8_isSo.cls ≠ "java/lang/invoke/VarHandle" ∧ (parseMethodDescriptor yX8_isSo.desc).map (fun d => d.parameters.length) = some 5 := ⟨by decide +kernel, by decide +kernel, by decide +kernel⟩
theorem zw_1282 : Cond.code yX8_isSo cX8_isSo 9 (some .boolean) ∈ zTB := zTB_mem 1412 (by decide +kernel) rfl
theorem zw_1281 : Cond.instanceMethod yX8_isSo ∈ zTB := zTB_mem 1411 (by decide +kernel) rfl
theorem zsel_X8_isSo : Cond.selects yX8_isSo.cls yX8_isSo yX8_isSo ∈ zTB := zTB_mem 124 (by decide +kernel) rfl
theorem zw_1287 : Cond.methodLink RX8 239 yX8_swaps ∈ zTB := zTB_mem 1417 (by decide +kernel) rfl
theorem zds_X8_swaps : yX8_swaps.cls ≠ "java/lang/invoke/MethodHandle" ∧ yX8_swaps.cls ≠ "java/lang/invoke/VarHandle" ∧ (parseMethodDescriptor yX8_swaps.desc).map (fun d => d.parameters.length) = some 2 := ⟨by decide +kernel, by decide +kernel, by decide +kernel⟩
theorem zw_1290 : Cond.code yX8_swaps cX8_swaps 5 none ∈ zTB := zTB_mem 1420 (by decide +kernel) rfl
theorem zw_1289 : Cond.instanceMethod yX8_swaps ∈ zTB := zTB_mem 1419 (by decide +kernel) rfl
theorem zsel_X8_swaps : Cond.selects yX8_swaps.cls yX8_swaps yX8_swaps ∈ zTB := zTB_mem 125 (by decide +kernel) rfl
theorem zw_1295 : Cond.constantLong RX8 242 (-1000001) ∈ zTB := zTB_mem 1425 (by decide +kernel) rfl
theorem zw_946 : Cond.fieldLink RX8 64 (TX8 21).1 (TX8 21).2.1 (TX8 21).2.2.1 ∈ zTB := zTB_mem 1076 (by decide +kernel) rfl
theorem zw_1296 : Cond.constantLong RX8 244 10 ∈ zTB := zTB_mem 1426 (by decide +kernel) rfl
theorem zw_1308 : Cond.constantLong RX8 246 3 ∈ zTB := zTB_mem 1438 (by decide +kernel) rfl
theorem zw_1301 : Cond.constant RX8 248 999999 ∈ zTB := zTB_mem 1431 (by decide +kernel) rfl
theorem zw_947 : Cond.fieldLink RX8 67 (TX8 22).1 (TX8 22).2.1 (TX8 22).2.2.1 ∈ zTB := zTB_mem 1077 (by decide +kernel) rfl
theorem zw_1302 : Cond.constantLong RX8 249 16807 ∈ zTB := zTB_mem 1432 (by decide +kernel) rfl
theorem zw_1303 : Cond.constantLong RX8 251 2147483647 ∈ zTB := zTB_mem 1433 (by decide +kernel) rfl
theorem zw_1304 : Cond.methodLink RX8 253 yX8_day ∈ zTB := zTB_mem 1434 (by decide +kernel) rfl
theorem zds_X8_day : yX8_day.cls ≠ "java/lang/invoke/MethodHandle" ∧ yX8_day.cls ≠ "java/lang/invoke/VarHandle" ∧ (parseMethodDescriptor yX8_day.desc).map (fun d => d.parameters.length) = some 1 := ⟨by decide +kernel, by decide +kernel, by decide +kernel⟩
theorem zw_1307 : Cond.code yX8_day cX8_day 6 none ∈ zTB := zTB_mem 1437 (by decide +kernel) rfl
theorem zw_1306 : Cond.instanceMethod yX8_day ∈ zTB := zTB_mem 1436 (by decide +kernel) rfl
theorem zsel_X8_day : Cond.selects yX8_day.cls yX8_day yX8_day ∈ zTB := zTB_mem 126 (by decide +kernel) rfl
theorem zw_940 : Cond.fieldLink RX8 37 (TX8 15).1 (TX8 15).2.1 (TX8 15).2.2.1 ∈ zTB := zTB_mem 1070 (by decide +kernel) rfl
theorem zw_941 : Cond.fieldLink RX8 40 (TX8 16).1 (TX8 16).2.1 (TX8 16).2.2.1 ∈ zTB := zTB_mem 1071 (by decide +kernel) rfl
theorem zw_944 : Cond.fieldLink RX8 257 (TX8 19).1 (TX8 19).2.1 (TX8 19).2.2.1 ∈ zTB := zTB_mem 1074 (by decide +kernel) rfl
theorem zw_943 : Cond.fieldLink RX8 48 (TX8 18).1 (TX8 18).2.1 (TX8 18).2.2.1 ∈ zTB := zTB_mem 1073 (by decide +kernel) rfl
theorem zw_1333 : Cond.methodLink RX8 260 yX8_leaves ∈ zTB := zTB_mem 1463 (by decide +kernel) rfl
theorem zds_X8_leaves : yX8_leaves.cls ≠ "java/lang/invoke/MethodHandle" ∧ yX8_leaves.cls ≠ "java/lang/invoke/VarHandle" ∧ (parseMethodDescriptor yX8_leaves.desc).map (fun d => d.parameters.length) = some 1 := ⟨by decide +kernel, by decide +kernel, by decide +kernel⟩
theorem zw_1336 : Cond.code yX8_leaves cX8_leaves 2 none ∈ zTB := zTB_mem 1466 (by decide +kernel) rfl
theorem zw_1335 : Cond.instanceMethod yX8_leaves ∈ zTB := zTB_mem 1465 (by decide +kernel) rfl
theorem zsel_X8_leaves : Cond.selects yX8_leaves.cls yX8_leaves yX8_leaves ∈ zTB := zTB_mem 128 (by decide +kernel) rfl
theorem zw_1329 : Cond.methodLink RX8 264 yX8_sizeHigh ∈ zTB := zTB_mem 1459 (by decide +kernel) rfl
theorem zds_X8_sizeHigh : yX8_sizeHigh.cls ≠ "java/lang/invoke/MethodHandle" ∧ yX8_sizeHigh.cls ≠ "java/lang/invoke/VarHandle" ∧ (parseMethodDescriptor yX8_sizeHigh.desc).map (fun d => d.parameters.length) = some 1 := ⟨by decide +kernel, by decide +kernel, by decide +kernel⟩
theorem zw_1332 : Cond.code yX8_sizeHigh cX8_sizeHigh 4 (some .int) ∈ zTB := zTB_mem 1462 (by decide +kernel) rfl
theorem zw_1331 : Cond.instanceMethod yX8_sizeHigh ∈ zTB := zTB_mem 1461 (by decide +kernel) rfl
theorem zsel_X8_sizeHigh : Cond.selects yX8_sizeHigh.cls yX8_sizeHigh yX8_sizeHigh ∈ zTB := zTB_mem 127 (by decide +kernel) rfl
theorem zw_1337 : Cond.methodLink RX8 267 yX8_markLow ∈ zTB := zTB_mem 1467 (by decide +kernel) rfl
theorem zds_X8_markLow : yX8_markLow.cls ≠ "java/lang/invoke/MethodHandle" ∧ yX8_markLow.cls ≠ "java/lang/invoke/VarHandle" ∧ (parseMethodDescriptor yX8_markLow.desc).map (fun d => d.parameters.length) = some 1 := ⟨by decide +kernel, by decide +kernel, by decide +kernel⟩
theorem zw_1340 : Cond.code yX8_markLow cX8_markLow 4 (some .int) ∈ zTB := zTB_mem 1470 (by decide +kernel) rfl
theorem zw_1339 : Cond.instanceMethod yX8_markLow ∈ zTB := zTB_mem 1469 (by decide +kernel) rfl
theorem zsel_X8_markLow : Cond.selects yX8_markLow.cls yX8_markLow yX8_markLow ∈ zTB := zTB_mem 129 (by decide +kernel) rfl
theorem zw_606 : Cond.constant RJ6 264 65536 ∈ zTB := zTB_mem 736 (by decide +kernel) rfl
theorem zw_425 : Cond.constant RJ6 265 1431655765 ∈ zTB := zTB_mem 555 (by decide +kernel) rfl
theorem zw_426 : Cond.constant RJ6 266 858993459 ∈ zTB := zTB_mem 556 (by decide +kernel) rfl
theorem zw_427 : Cond.constant RJ6 267 252645135 ∈ zTB := zTB_mem 557 (by decide +kernel) rfl

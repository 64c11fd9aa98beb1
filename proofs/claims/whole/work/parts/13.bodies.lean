/-! The bodies by number, and that they are right -/
def zBTl : List (Option ZB) := [some (4, 0, tb2_X0_keep, cu_X0_keep),
  some (3, 0, tb_X0_takeBackLatest, cu_X0_takeBackLatest),
  some (4, 3, tb_X1_isAlso, cu_X1_isAlso),
  some (1, 1, tb_X1_above, cu_X1_above),
  some (4, 1, tb_X1_answer, cu_X1_answer),
  some (5, 1, tb_X1_bodyFor, cu_X1_bodyFor),
  some (2, 1, tb_X1_bodyTold, cu_X1_bodyTold),
  some (4, 1, tb_X1_body, cu_X1_body),
  some (2, 0, tb_X1_leave, cu_X1_leave),
  some (4, 0, tb_X2_learn, cu_X2_learn),
  some (5, 3, tb_X2_hangsByOneLess, cu_X2_hangsByOneLess),
  some (3, 0, tb_X2_weigh, cu_X2_weigh),
  some (3, 3, tb_X2_isPiece, cu_X2_isPiece),
  some (4, 3, tb_X2_couldServe, cu_X2_couldServe),
  some (4, 1, tb_X2_countAll, cu_X2_countAll),
  some (7, 1, tb_X2_countOf, cu_X2_countOf),
  some (7, 3, tb_X2_isStraight, cu_X2_isStraight),
  some (3, 0, tb_X2_markSums, cu_X2_markSums),
  some (3, 1, tb_X2_countSums, cu_X2_countSums),
  some (2, 1, tb_X2_leastSumUnpaid, cu_X2_leastSumUnpaid),
  some (4, 1, tb2_X2_greatestSum, cu_X2_greatestSum),
  some (7, 1, tb_X2_bestFor, cu_X2_bestFor),
  some (2, 1, tb_X2_rankOf, cu_X2_rankOf),
  some (5, 1, tb_X2_countFor, cu_X2_countFor),
  some (7, 1, tb_X2_cheapestFor, cu_X2_cheapestFor),
  some (4, 1, tb_X2_mostServed, cu_X2_mostServed),
  some (3, 0, tb_X2_findSuited, cu_X2_findSuited),
  some (5, 1, tb_X2_suitedBy, cu_X2_suitedBy),
  some (3, 0, tb_X2_findServable, cu_X2_findServable),
  some (7, 1, tb_X2_servableBy, cu_X2_servableBy),
  some (4, 1, tb_X2_withOneMore, cu_X2_withOneMore),
  some (3, 3, tb_X2_canServe, cu_X2_canServe),
  some (8, 1, tb_X2_pieceAmongServed, cu_X2_pieceAmongServed),
  some (6, 1, tb_X2_firstPieceLeaving, cu_X2_firstPieceLeaving),
  some (6, 1, tb_X2_countCouplings, cu_X2_countCouplings),
  some (10, 1, tb_X2_sideOf, cu_X2_sideOf),
  some (9, 2, tb_X2_casesOfFewLost, cu_X2_casesOfFewLost),
  some (6, 0, tb_X2_addStamp, cu_X2_addStamp),
  some (2, 3, tb_X3_append, cu_X3_append),
  some (3, 3, tb_X3_read, cu_X3_read),
  some (5, 3, tb2_X3_readLaw, cu_X3_readLaw),
  some (5, 3, tb_X3_readStamps, cu_X3_readStamps),
  some (5, 3, tb_X3_readCustomers, cu_X3_readCustomers),
  some (1, 1, tb_X3_kindOfSort, cu_X3_kindOfSort),
  some (2, 3, tb_X3_takes, cu_X3_takes),
  some (4, 1, tb_X3_takeNumber, cu_X3_takeNumber),
  some (2, 3, tb_X3_refuse, cu_X3_refuse),
  some (2, 0, tb_X3_step, cu_X3_step),
  some (1, 0, tb_X3_stepOverNumber, cu_X3_stepOverNumber),
  some (1, 3, tb_X3_isFigureSign, cu_X3_isFigureSign),
  some (3, 0, tb_X4_begin, cu_X4_begin),
  some (3, 3, tb_X4_reaches, cu_X4_reaches),
  some (3, 1, tb_X4_put, cu_X4_put),
  some (5, 0, tb2_X5_begin, cu_X5_begin),
  some (3, 1, tb_X5_findNext, cu_X5_findNext),
  some (4, 0, tb_X5_put, cu_X5_put),
  some (3, 0, tb_X5_add, cu_X5_add),
  some (2, 0, tb_X5_become, cu_X5_become),
  some (4, 0, tb_X5_sell, cu_X5_sell),
  some (2, 0, tb_X5_takeBack, cu_X5_takeBack),
  some (2, 0, tb_X5_lose, cu_X5_lose),
  some (2, 3, tb_X5_isOn, cu_X5_isOn),
  some (2, 3, tb_X5_holds, cu_X5_holds),
  some (2, 3, tb_X5_isServed, cu_X5_isServed),
  some (3, 3, tb_X5_suits, cu_X5_suits),
  some (3, 1, tb_X5_served, cu_X5_served),
  some (2, 1, tb_X5_howIs, cu_X5_howIs),
  some (3, 1, tb_X5_ownerOf, cu_X5_ownerOf),
  some (4, 1, tb_X5_paysOf, cu_X5_paysOf),
  some (3, 1, tb_X5_payOfStamp, cu_X5_payOfStamp),
  some (4, 1, tb_X5_tearsOf, cu_X5_tearsOf),
  some (4, 1, tb_X5_nextTo, cu_X5_nextTo),
  some (5, 1, tb_X5_partAround, cu_X5_partAround),
  some (4, 1, tb_X5_countParts, cu_X5_countParts),
  some (5, 1, tb_X5_partNumber, cu_X5_partNumber),
  some (5, 1, tb_X5_stepsBetween, cu_X5_stepsBetween),
  some (6, 1, tb_X5_firstStep, cu_X5_firstStep),
  some (8, 3, tb_X6_takeCells, cu_X6_takeCells),
  some (4, 0, tb_X6_takePays, cu_X6_takePays),
  some (4, 3, tb_X6_isSo, cu_X6_isSo),
  some (4, 1, tb_X7_row, cu_X7_row),
  some (4, 1, tb_X7_set, cu_X7_set),
  some (8, 1, tb_X7_copy, cu_X7_copy),
  some (2, 1, tb_X7_drop, cu_X7_drop),
  some (2, 1, tb_X7_feed, cu_X7_feed),
  some (1, 1, tb_X7_sheet, cu_X7_sheet),
  some (1, 1, tb_X7_fault, cu_X7_fault),
  some (1, 1, tb_X7_undo, cu_X7_undo),
  some (4, 1, tb_X7_serve, cu_X7_serve),
  some (3, 1, tb_X7_bringBack, cu_X7_bringBack),
  some (2, 1, tb_X7_spoil, cu_X7_spoil),
  some (4, 1, tb_X7_value, cu_X7_value),
  some (3, 1, tb_X7_over, cu_X7_over),
  some (3, 1, tb_X7_cell, cu_X7_cell),
  some (3, 1, tb_X7_customer, cu_X7_customer),
  some (2, 1, tb_X7_stand, cu_X7_stand),
  some (3, 1, tb_X7_piece, cu_X7_piece),
  some (2, 1, tb_X7_parts, cu_X7_parts),
  some (3, 1, tb_X7_pieces, cu_X7_pieces),
  some (2, 1, tb_X7_sums, cu_X7_sums),
  some (4, 1, tb_X7_best, cu_X7_best),
  some (2, 1, tb_X7_ways, cu_X7_ways),
  some (4, 1, tb_X7_thrift, cu_X7_thrift),
  some (3, 1, tb_X7_serving, cu_X7_serving),
  some (1, 1, tb_X7_couples, cu_X7_couples),
  some (5, 1, tb_X7_parting, cu_X7_parting),
  some (4, 1, tb_X7_way, cu_X7_way),
  some (4, 1, tb_X7_lone, cu_X7_lone),
  some (9, 1, tb_X7_who, cu_X7_who),
  some (8, 1, tb_X7_fits, cu_X7_fits),
  some (11, 2, tb_X7_wrong, cu_X7_wrong),
  some (7, 1, tb_X7_drawn, cu_X7_drawn),
  some (2, 1, tb_X7_image, cu_X7_image),
  some (2, 1, tb_X7_restore, cu_X7_restore),
  some (2, 1, tb_X7_kind, cu_X7_kind),
  some (3, 1, tb_X7_as, cu_X7_as),
  some (3, 1, tb_X7_ask, cu_X7_ask),
  some (2, 1, tb_X7_trace, cu_X7_trace),
  some (2, 1, tb_X7_count, cu_X7_count),
  some (1, 1, tb_X7_status, cu_X7_status),
  some (2, 1, tb_X7_found, cu_X7_found),
  some (2, 1, tb_X7_fine, cu_X7_fine),
  some (1, 3, tb_X7_isThere, cu_X7_isThere),
  some (2, 3, tb_X7_isCell, cu_X7_isCell),
  some (3, 3, tb_X7_areTwoCells, cu_X7_areTwoCells),
  some (2, 3, tb_X7_isCustomer, cu_X7_isCustomer),
  some (1, 3, tb_X7_isRow, cu_X7_isRow),
  some (1, 3, tb_X7_isFigure, cu_X7_isFigure),
  some (1, 3, tb_X7_isEither, cu_X7_isEither),
  some (3, 3, tb_X7_areRowsOf, cu_X7_areRowsOf),
  some (3, 1, tb_X7_countRows, cu_X7_countRows),
  some (2, 0, tb_X7_putInPlace, cu_X7_putInPlace),
  some (6, 0, tb_X7_liveDay, cu_X7_liveDay),
  some (3, 1, tb_X7_restBy, cu_X7_restBy),
  some (6, 2, tb_X7_powerOf, cu_X7_powerOf),
  some (11, 2, tb_X7_commonDivisor, cu_X7_commonDivisor),
  some (8, 1, tb_X7_takeTold, cu_X7_takeTold),
  some (4, 1, tb_X7_kindsThatFit, cu_X7_kindsThatFit),
  some (4, 1, tb_X7_valuesThatFit, cu_X7_valuesThatFit),
  some (3, 1, tb_X7_oversThatFit, cu_X7_oversThatFit),
  some (4, 1, tb_X7_countSwaps, cu_X7_countSwaps),
  some (3, 1, tb_X7_firstSwap, cu_X7_firstSwap),
  some (3, 3, tb_X7_fitsSwapped, cu_X7_fitsSwapped),
  some (3, 3, tb_X8_in, cu_X8_in),
  some (2, 3, tb_X8_has, cu_X8_has),
  some (3, 1, tb_X8_ones, cu_X8_ones),
  some (1, 3, tb_X8_isRow, cu_X8_isRow),
  some (2, 1, tb_X8_finds, cu_X8_finds),
  some (5, 1, tb_X8_row, cu_X8_row),
  some (5, 1, tb_X8_set, cu_X8_set),
  some (4, 3, tb_X8_isPlace, cu_X8_isPlace),
  some (7, 1, tb_X8_copy, cu_X8_copy),
  some (3, 1, tb_X8_drop, cu_X8_drop),
  some (2, 1, tb_X8_feed, cu_X8_feed),
  some (2, 1, tb_X8_byteAt, cu_X8_byteAt),
  some (1, 3, tb_X8_isFigure, cu_X8_isFigure),
  some (2, 3, tb_X8_wrongs, cu_X8_wrongs),
  some (2, 3, tb_X8_takes, cu_X8_takes),
  some (5, 3, tb_X8_number, cu_X8_number),
  some (1, 1, tb_X8_kindBy, cu_X8_kindBy),
  some (2, 3, tb_X8_readsLaw, cu_X8_readsLaw),
  some (3, 3, tb_X8_readsStamp, cu_X8_readsStamp),
  some (2, 3, tb_X8_readsCustomer, cu_X8_readsCustomer),
  some (2, 3, tb_X8_reads, cu_X8_reads),
  some (5, 0, tb_X8_joins, cu_X8_joins),
  some (3, 1, tb_X8_sheet, cu_X8_sheet),
  some (1, 1, tb_X8_fault, cu_X8_fault),
  some (2, 0, tb_X8_keeps, cu_X8_keeps),
  some (2, 1, tb_X8_undo, cu_X8_undo),
  some (2, 3, tb_X8_isCell, cu_X8_isCell),
  some (2, 3, tb_X8_isCustomer, cu_X8_isCustomer),
  some (3, 1, tb_X8_gone, cu_X8_gone),
  some (1, 1, tb_X8_on, cu_X8_on),
  some (3, 1, tb_X8_servedNow, cu_X8_servedNow),
  some (6, 1, tb_X8_reach, cu_X8_reach),
  some (2, 1, tb_X8_lowest, cu_X8_lowest),
  some (2, 3, tb_X8_hangs, cu_X8_hangs),
  some (2, 3, tb_X8_isPiece, cu_X8_isPiece),
  some (8, 1, tb_X8_pays, cu_X8_pays),
  some (4, 1, tb_X8_tears, cu_X8_tears),
  some (3, 0, tb_X8_serves, cu_X8_serves),
  some (4, 1, tb_X8_serve, cu_X8_serve),
  some (3, 1, tb_X8_bringBack, cu_X8_bringBack),
  some (2, 1, tb_X8_spoil, cu_X8_spoil),
  some (4, 1, tb_X8_value, cu_X8_value),
  some (3, 1, tb_X8_over, cu_X8_over),
  some (4, 1, tb_X8_ownerOf, cu_X8_ownerOf),
  some (3, 1, tb_X8_cell, cu_X8_cell),
  some (3, 1, tb_X8_customer, cu_X8_customer),
  some (2, 1, tb_X8_stand, cu_X8_stand),
  some (5, 1, tb_X8_partOf, cu_X8_partOf),
  some (3, 1, tb_X8_manyParts, cu_X8_manyParts),
  some (3, 1, tb_X8_piece, cu_X8_piece),
  some (3, 1, tb_X8_parts, cu_X8_parts),
  some (2, 0, tb_X8_surveys, cu_X8_surveys),
  some (2, 1, tb_X8_paysBy, cu_X8_paysBy),
  some (6, 3, tb_X8_isStraight, cu_X8_isStraight),
  some (6, 1, tb_X8_pieces, cu_X8_pieces),
  some (11, 1, tb_X8_sums, cu_X8_sums),
  some (3, 3, tb_X8_fitsFor, cu_X8_fitsFor),
  some (5, 1, tb_X8_bestFor, cu_X8_bestFor),
  some (4, 1, tb_X8_best, cu_X8_best),
  some (4, 1, tb_X8_ways, cu_X8_ways),
  some (5, 1, tb_X8_thrift, cu_X8_thrift),
  some (15, 0, tb_X8_serveAll, cu_X8_serveAll),
  some (3, 3, tb_X8_can, cu_X8_can),
  some (9, 1, tb_X8_serving, cu_X8_serving),
  some (7, 1, tb_X8_couples, cu_X8_couples),
  some (8, 1, tb_X8_parting, cu_X8_parting),
  some (7, 1, tb_X8_stepsOf, cu_X8_stepsOf),
  some (6, 1, tb_X8_way, cu_X8_way),
  some (4, 1, tb_X8_lone, cu_X8_lone),
  some (9, 1, tb_X8_findingOf, cu_X8_findingOf),
  some (9, 3, tb_X8_isSo, cu_X8_isSo),
  some (13, 1, tb_X8_who, cu_X8_who),
  some (5, 0, tb_X8_swaps, cu_X8_swaps),
  some (15, 1, tb_X8_fits, cu_X8_fits),
  some (15, 2, tb_X8_wrong, cu_X8_wrong),
  some (6, 0, tb_X8_day, cu_X8_day),
  some (8, 1, tb_X8_drawn, cu_X8_drawn),
  some (3, 1, tb_X8_image, cu_X8_image),
  some (3, 1, tb_X8_restore, cu_X8_restore),
  some (2, 1, tb_X8_kind, cu_X8_kind),
  some (5, 1, tb_X8_as, cu_X8_as),
  some (2, 0, tb_X8_leaves, cu_X8_leaves),
  some (4, 1, tb_X8_markLow, cu_X8_markLow),
  some (4, 1, tb_X8_sizeHigh, cu_X8_sizeHigh),
  some (5, 1, tb_X8_ask, cu_X8_ask),
  some (2, 1, tb_X8_trace, cu_X8_trace),
  some (4, 1, tb_X8_count, cu_X8_count),
  some (1, 1, tb_X8_status, cu_X8_status),
  some (1, 1, tb_J6_lowestOneBit_0f7a4, cu_J6_lowestOneBit_0f7a4),
  some (2, 1, tb_J6_numberOfTrailingZeros_0f7a4, cu2_J6_numberOfTrailingZeros_0f7a4),
  some (1, 1, tb_J6_bitCount_0f7a4, cu2_J6_bitCount_0f7a4),
  none,
  none,
  some (5, 0, tb_J7_fill_d0a16, cu_J7_fill_d0a16),
  some (4, 0, tb_J7_fill_53178, cu_J7_fill_53178)]
def zbt (y : Nat) : Option ZB := (zBTl[y]?).join
def zall2 (P : ZT → ZB → Prop) : List ZT → List (Option ZB) → Prop
  | a :: r, b :: s => (∀ x, b = some x → P a x) ∧ zall2 P r s
  | [], [] => True
  | _, _ => False
theorem zall2_at {P : ZT → ZB → Prop} : ∀ {l1 : List ZT} {l2 : List (Option ZB)}, zall2 P l1 l2 → ∀ (y : Nat) (q : ZT) (b : ZB), l1[y]? = some q → l2[y]? = some (some b) → P q b
  | [], [], _, y, q, b, h1, _ => by simp at h1
  | a :: r, b :: s, h, 0, q, b', h1, h2 => by
    simp only [List.getElem?_cons_zero, Option.some.injEq] at h1 h2
    subst h1
    exact h.1 _ h2
  | a :: r, b :: s, h, y + 1, q, b', h1, h2 => by
    simp only [List.getElem?_cons_succ] at h1 h2
    exact zall2_at h.2 y q b' h1 h2
  | [], _ :: _, h, _, _, _, _, _ => h.elim
  | _ :: _, [], h, _, _, _, _, _ => h.elim
theorem zbo_X0_keep : zBok zmt (yX0_keep, cX0_keep, 4, none) (4, 0, tb2_X0_keep, cu_X0_keep) := ⟨rfl, Or.inl ⟨rfl, rfl⟩, by decide +kernel, ok2_X0_keep⟩
theorem zbo_X0_takeBackLatest : zBok zmt (yX0_takeBackLatest, cX0_takeBackLatest, 3, none) (3, 0, tb_X0_takeBackLatest, cu_X0_takeBackLatest) := ⟨rfl, Or.inl ⟨rfl, rfl⟩, by decide +kernel, ok_X0_takeBackLatest⟩
theorem zbo_X1_isAlso : zBok zmt (yX1_isAlso, cX1_isAlso, 4, (some .boolean)) (4, 3, tb_X1_isAlso, cu_X1_isAlso) := ⟨rfl, Or.inr (Or.inr (Or.inr ⟨rfl, rfl⟩)), by decide +kernel, ok_X1_isAlso⟩
theorem zbo_X1_above : zBok zmt (yX1_above, cX1_above, 1, (some .int)) (1, 1, tb_X1_above, cu_X1_above) := ⟨rfl, Or.inr (Or.inl ⟨rfl, rfl⟩), by decide +kernel, ok_X1_above⟩
theorem zbo_X1_answer : zBok zmt (yX1_answer, cX1_answer, 4, (some .int)) (4, 1, tb_X1_answer, cu_X1_answer) := ⟨rfl, Or.inr (Or.inl ⟨rfl, rfl⟩), by decide +kernel, ok_X1_answer⟩
theorem zbo_X1_bodyFor : zBok zmt (yX1_bodyFor, cX1_bodyFor, 5, (some .int)) (5, 1, tb_X1_bodyFor, cu_X1_bodyFor) := ⟨rfl, Or.inr (Or.inl ⟨rfl, rfl⟩), by decide +kernel, ok_X1_bodyFor⟩
theorem zbo_X1_bodyTold : zBok zmt (yX1_bodyTold, cX1_bodyTold, 2, (some .int)) (2, 1, tb_X1_bodyTold, cu_X1_bodyTold) := ⟨rfl, Or.inr (Or.inl ⟨rfl, rfl⟩), by decide +kernel, ok_X1_bodyTold⟩
theorem zbo_X1_body : zBok zmt (yX1_body, cX1_body, 4, (some .int)) (4, 1, tb_X1_body, cu_X1_body) := ⟨rfl, Or.inr (Or.inl ⟨rfl, rfl⟩), by decide +kernel, ok_X1_body⟩
theorem zbo_X1_leave : zBok zmt (yX1_leave, cX1_leave, 2, none) (2, 0, tb_X1_leave, cu_X1_leave) := ⟨rfl, Or.inl ⟨rfl, rfl⟩, by decide +kernel, ok_X1_leave⟩
theorem zbo_X2_learn : zBok zmt (yX2_learn, cX2_learn, 4, none) (4, 0, tb_X2_learn, cu_X2_learn) := ⟨rfl, Or.inl ⟨rfl, rfl⟩, by decide +kernel, ok_X2_learn⟩
theorem zbo_X2_hangsByOneLess : zBok zmt (yX2_hangsByOneLess, cX2_hangsByOneLess, 5, (some .boolean)) (5, 3, tb_X2_hangsByOneLess, cu_X2_hangsByOneLess) := ⟨rfl, Or.inr (Or.inr (Or.inr ⟨rfl, rfl⟩)), by decide +kernel, ok_X2_hangsByOneLess⟩
theorem zbo_X2_weigh : zBok zmt (yX2_weigh, cX2_weigh, 3, none) (3, 0, tb_X2_weigh, cu_X2_weigh) := ⟨rfl, Or.inl ⟨rfl, rfl⟩, by decide +kernel, ok_X2_weigh⟩
theorem zbo_X2_isPiece : zBok zmt (yX2_isPiece, cX2_isPiece, 3, (some .boolean)) (3, 3, tb_X2_isPiece, cu_X2_isPiece) := ⟨rfl, Or.inr (Or.inr (Or.inr ⟨rfl, rfl⟩)), by decide +kernel, ok_X2_isPiece⟩
theorem zbo_X2_couldServe : zBok zmt (yX2_couldServe, cX2_couldServe, 4, (some .boolean)) (4, 3, tb_X2_couldServe, cu_X2_couldServe) := ⟨rfl, Or.inr (Or.inr (Or.inr ⟨rfl, rfl⟩)), by decide +kernel, ok_X2_couldServe⟩
theorem zbo_X2_countAll : zBok zmt (yX2_countAll, cX2_countAll, 4, (some .int)) (4, 1, tb_X2_countAll, cu_X2_countAll) := ⟨rfl, Or.inr (Or.inl ⟨rfl, rfl⟩), by decide +kernel, ok_X2_countAll⟩
theorem zbo_X2_countOf : zBok zmt (yX2_countOf, cX2_countOf, 7, (some .int)) (7, 1, tb_X2_countOf, cu_X2_countOf) := ⟨rfl, Or.inr (Or.inl ⟨rfl, rfl⟩), by decide +kernel, ok_X2_countOf⟩
theorem zbo_X2_isStraight : zBok zmt (yX2_isStraight, cX2_isStraight, 7, (some .boolean)) (7, 3, tb_X2_isStraight, cu_X2_isStraight) := ⟨rfl, Or.inr (Or.inr (Or.inr ⟨rfl, rfl⟩)), by decide +kernel, ok_X2_isStraight⟩
theorem zbo_X2_markSums : zBok zmt (yX2_markSums, cX2_markSums, 3, none) (3, 0, tb_X2_markSums, cu_X2_markSums) := ⟨rfl, Or.inl ⟨rfl, rfl⟩, by decide +kernel, ok_X2_markSums⟩
theorem zbo_X2_countSums : zBok zmt (yX2_countSums, cX2_countSums, 3, (some .int)) (3, 1, tb_X2_countSums, cu_X2_countSums) := ⟨rfl, Or.inr (Or.inl ⟨rfl, rfl⟩), by decide +kernel, ok_X2_countSums⟩
theorem zbo_X2_leastSumUnpaid : zBok zmt (yX2_leastSumUnpaid, cX2_leastSumUnpaid, 2, (some .int)) (2, 1, tb_X2_leastSumUnpaid, cu_X2_leastSumUnpaid) := ⟨rfl, Or.inr (Or.inl ⟨rfl, rfl⟩), by decide +kernel, ok_X2_leastSumUnpaid⟩
theorem zbo_X2_greatestSum : zBok zmt (yX2_greatestSum, cX2_greatestSum, 4, (some .int)) (4, 1, tb2_X2_greatestSum, cu_X2_greatestSum) := ⟨rfl, Or.inr (Or.inl ⟨rfl, rfl⟩), by decide +kernel, ok2_X2_greatestSum⟩
theorem zbo_X2_bestFor : zBok zmt (yX2_bestFor, cX2_bestFor, 7, (some .int)) (7, 1, tb_X2_bestFor, cu_X2_bestFor) := ⟨rfl, Or.inr (Or.inl ⟨rfl, rfl⟩), by decide +kernel, ok_X2_bestFor⟩
theorem zbo_X2_rankOf : zBok zmt (yX2_rankOf, cX2_rankOf, 2, (some .int)) (2, 1, tb_X2_rankOf, cu_X2_rankOf) := ⟨rfl, Or.inr (Or.inl ⟨rfl, rfl⟩), by decide +kernel, ok_X2_rankOf⟩
theorem zbo_X2_countFor : zBok zmt (yX2_countFor, cX2_countFor, 5, (some .int)) (5, 1, tb_X2_countFor, cu_X2_countFor) := ⟨rfl, Or.inr (Or.inl ⟨rfl, rfl⟩), by decide +kernel, ok_X2_countFor⟩
theorem zbo_X2_cheapestFor : zBok zmt (yX2_cheapestFor, cX2_cheapestFor, 7, (some .int)) (7, 1, tb_X2_cheapestFor, cu_X2_cheapestFor) := ⟨rfl, Or.inr (Or.inl ⟨rfl, rfl⟩), by decide +kernel, ok_X2_cheapestFor⟩
theorem zbo_X2_mostServed : zBok zmt (yX2_mostServed, cX2_mostServed, 4, (some .int)) (4, 1, tb_X2_mostServed, cu_X2_mostServed) := ⟨rfl, Or.inr (Or.inl ⟨rfl, rfl⟩), by decide +kernel, ok_X2_mostServed⟩
theorem zbo_X2_findSuited : zBok zmt (yX2_findSuited, cX2_findSuited, 3, none) (3, 0, tb_X2_findSuited, cu_X2_findSuited) := ⟨rfl, Or.inl ⟨rfl, rfl⟩, by decide +kernel, ok_X2_findSuited⟩
theorem zbo_X2_suitedBy : zBok zmt (yX2_suitedBy, cX2_suitedBy, 5, (some .int)) (5, 1, tb_X2_suitedBy, cu_X2_suitedBy) := ⟨rfl, Or.inr (Or.inl ⟨rfl, rfl⟩), by decide +kernel, ok_X2_suitedBy⟩
theorem zbo_X2_findServable : zBok zmt (yX2_findServable, cX2_findServable, 3, none) (3, 0, tb_X2_findServable, cu_X2_findServable) := ⟨rfl, Or.inl ⟨rfl, rfl⟩, by decide +kernel, ok_X2_findServable⟩
theorem zbo_X2_servableBy : zBok zmt (yX2_servableBy, cX2_servableBy, 7, (some .int)) (7, 1, tb_X2_servableBy, cu_X2_servableBy) := ⟨rfl, Or.inr (Or.inl ⟨rfl, rfl⟩), by decide +kernel, ok_X2_servableBy⟩
theorem zbo_X2_withOneMore : zBok zmt (yX2_withOneMore, cX2_withOneMore, 4, (some .int)) (4, 1, tb_X2_withOneMore, cu_X2_withOneMore) := ⟨rfl, Or.inr (Or.inl ⟨rfl, rfl⟩), by decide +kernel, ok_X2_withOneMore⟩
theorem zbo_X2_canServe : zBok zmt (yX2_canServe, cX2_canServe, 3, (some .boolean)) (3, 3, tb_X2_canServe, cu_X2_canServe) := ⟨rfl, Or.inr (Or.inr (Or.inr ⟨rfl, rfl⟩)), by decide +kernel, ok_X2_canServe⟩
theorem zbo_X2_pieceAmongServed : zBok zmt (yX2_pieceAmongServed, cX2_pieceAmongServed, 8, (some .int)) (8, 1, tb_X2_pieceAmongServed, cu_X2_pieceAmongServed) := ⟨rfl, Or.inr (Or.inl ⟨rfl, rfl⟩), by decide +kernel, ok_X2_pieceAmongServed⟩
theorem zbo_X2_firstPieceLeaving : zBok zmt (yX2_firstPieceLeaving, cX2_firstPieceLeaving, 6, (some .int)) (6, 1, tb_X2_firstPieceLeaving, cu_X2_firstPieceLeaving) := ⟨rfl, Or.inr (Or.inl ⟨rfl, rfl⟩), by decide +kernel, ok_X2_firstPieceLeaving⟩
theorem zbo_X2_countCouplings : zBok zmt (yX2_countCouplings, cX2_countCouplings, 6, (some .int)) (6, 1, tb_X2_countCouplings, cu_X2_countCouplings) := ⟨rfl, Or.inr (Or.inl ⟨rfl, rfl⟩), by decide +kernel, ok_X2_countCouplings⟩
theorem zbo_X2_sideOf : zBok zmt (yX2_sideOf, cX2_sideOf, 10, (some .int)) (10, 1, tb_X2_sideOf, cu_X2_sideOf) := ⟨rfl, Or.inr (Or.inl ⟨rfl, rfl⟩), by decide +kernel, ok_X2_sideOf⟩
theorem zbo_X2_casesOfFewLost : zBok zmt (yX2_casesOfFewLost, cX2_casesOfFewLost, 9, (some .long)) (9, 2, tb_X2_casesOfFewLost, cu_X2_casesOfFewLost) := ⟨rfl, Or.inr (Or.inr (Or.inl ⟨rfl, rfl⟩)), by decide +kernel, ok_X2_casesOfFewLost⟩
theorem zbo_X2_addStamp : zBok zmt (yX2_addStamp, cX2_addStamp, 6, none) (6, 0, tb_X2_addStamp, cu_X2_addStamp) := ⟨rfl, Or.inl ⟨rfl, rfl⟩, by decide +kernel, ok_X2_addStamp⟩
theorem zbo_X3_append : zBok zmt (yX3_append, cX3_append, 2, (some .boolean)) (2, 3, tb_X3_append, cu_X3_append) := ⟨rfl, Or.inr (Or.inr (Or.inr ⟨rfl, rfl⟩)), by decide +kernel, ok_X3_append⟩
theorem zbo_X3_read : zBok zmt (yX3_read, cX3_read, 3, (some .boolean)) (3, 3, tb_X3_read, cu_X3_read) := ⟨rfl, Or.inr (Or.inr (Or.inr ⟨rfl, rfl⟩)), by decide +kernel, ok_X3_read⟩
theorem zbo_X3_readLaw : zBok zmt (yX3_readLaw, cX3_readLaw, 5, (some .boolean)) (5, 3, tb2_X3_readLaw, cu_X3_readLaw) := ⟨rfl, Or.inr (Or.inr (Or.inr ⟨rfl, rfl⟩)), by decide +kernel, ok2_X3_readLaw⟩
theorem zbo_X3_readStamps : zBok zmt (yX3_readStamps, cX3_readStamps, 5, (some .boolean)) (5, 3, tb_X3_readStamps, cu_X3_readStamps) := ⟨rfl, Or.inr (Or.inr (Or.inr ⟨rfl, rfl⟩)), by decide +kernel, ok_X3_readStamps⟩
theorem zbo_X3_readCustomers : zBok zmt (yX3_readCustomers, cX3_readCustomers, 5, (some .boolean)) (5, 3, tb_X3_readCustomers, cu_X3_readCustomers) := ⟨rfl, Or.inr (Or.inr (Or.inr ⟨rfl, rfl⟩)), by decide +kernel, ok_X3_readCustomers⟩
theorem zbo_X3_kindOfSort : zBok zmt (yX3_kindOfSort, cX3_kindOfSort, 1, (some .int)) (1, 1, tb_X3_kindOfSort, cu_X3_kindOfSort) := ⟨rfl, Or.inr (Or.inl ⟨rfl, rfl⟩), by decide +kernel, ok_X3_kindOfSort⟩
theorem zbo_X3_takes : zBok zmt (yX3_takes, cX3_takes, 2, (some .boolean)) (2, 3, tb_X3_takes, cu_X3_takes) := ⟨rfl, Or.inr (Or.inr (Or.inr ⟨rfl, rfl⟩)), by decide +kernel, ok_X3_takes⟩
theorem zbo_X3_takeNumber : zBok zmt (yX3_takeNumber, cX3_takeNumber, 4, (some .int)) (4, 1, tb_X3_takeNumber, cu_X3_takeNumber) := ⟨rfl, Or.inr (Or.inl ⟨rfl, rfl⟩), by decide +kernel, ok_X3_takeNumber⟩
theorem zbo_X3_refuse : zBok zmt (yX3_refuse, cX3_refuse, 2, (some .boolean)) (2, 3, tb_X3_refuse, cu_X3_refuse) := ⟨rfl, Or.inr (Or.inr (Or.inr ⟨rfl, rfl⟩)), by decide +kernel, ok_X3_refuse⟩
theorem zbo_X3_step : zBok zmt (yX3_step, cX3_step, 2, none) (2, 0, tb_X3_step, cu_X3_step) := ⟨rfl, Or.inl ⟨rfl, rfl⟩, by decide +kernel, ok_X3_step⟩
theorem zbo_X3_stepOverNumber : zBok zmt (yX3_stepOverNumber, cX3_stepOverNumber, 1, none) (1, 0, tb_X3_stepOverNumber, cu_X3_stepOverNumber) := ⟨rfl, Or.inl ⟨rfl, rfl⟩, by decide +kernel, ok_X3_stepOverNumber⟩
theorem zbo_X3_isFigureSign : zBok zmt (yX3_isFigureSign, cX3_isFigureSign, 1, (some .boolean)) (1, 3, tb_X3_isFigureSign, cu_X3_isFigureSign) := ⟨rfl, Or.inr (Or.inr (Or.inr ⟨rfl, rfl⟩)), by decide +kernel, ok_X3_isFigureSign⟩
theorem zbo_X4_begin : zBok zmt (yX4_begin, cX4_begin, 3, none) (3, 0, tb_X4_begin, cu_X4_begin) := ⟨rfl, Or.inl ⟨rfl, rfl⟩, by decide +kernel, ok_X4_begin⟩
theorem zbo_X4_reaches : zBok zmt (yX4_reaches, cX4_reaches, 3, (some .boolean)) (3, 3, tb_X4_reaches, cu_X4_reaches) := ⟨rfl, Or.inr (Or.inr (Or.inr ⟨rfl, rfl⟩)), by decide +kernel, ok_X4_reaches⟩
theorem zbo_X4_put : zBok zmt (yX4_put, cX4_put, 3, (some .int)) (3, 1, tb_X4_put, cu_X4_put) := ⟨rfl, Or.inr (Or.inl ⟨rfl, rfl⟩), by decide +kernel, ok_X4_put⟩
theorem zbo_X5_begin : zBok zmt (yX5_begin, cX5_begin, 5, none) (5, 0, tb2_X5_begin, cu_X5_begin) := ⟨rfl, Or.inl ⟨rfl, rfl⟩, by decide +kernel, ok2_X5_begin⟩
theorem zbo_X5_findNext : zBok zmt (yX5_findNext, cX5_findNext, 3, (some .int)) (3, 1, tb_X5_findNext, cu_X5_findNext) := ⟨rfl, Or.inr (Or.inl ⟨rfl, rfl⟩), by decide +kernel, ok_X5_findNext⟩
theorem zbo_X5_put : zBok zmt (yX5_put, cX5_put, 4, none) (4, 0, tb_X5_put, cu_X5_put) := ⟨rfl, Or.inl ⟨rfl, rfl⟩, by decide +kernel, ok_X5_put⟩
theorem zbo_X5_add : zBok zmt (yX5_add, cX5_add, 3, none) (3, 0, tb_X5_add, cu_X5_add) := ⟨rfl, Or.inl ⟨rfl, rfl⟩, by decide +kernel, ok_X5_add⟩
theorem zbo_X5_become : zBok zmt (yX5_become, cX5_become, 2, none) (2, 0, tb_X5_become, cu_X5_become) := ⟨rfl, Or.inl ⟨rfl, rfl⟩, by decide +kernel, ok_X5_become⟩
theorem zbo_X5_sell : zBok zmt (yX5_sell, cX5_sell, 4, none) (4, 0, tb_X5_sell, cu_X5_sell) := ⟨rfl, Or.inl ⟨rfl, rfl⟩, by decide +kernel, ok_X5_sell⟩
theorem zbo_X5_takeBack : zBok zmt (yX5_takeBack, cX5_takeBack, 2, none) (2, 0, tb_X5_takeBack, cu_X5_takeBack) := ⟨rfl, Or.inl ⟨rfl, rfl⟩, by decide +kernel, ok_X5_takeBack⟩
theorem zbo_X5_lose : zBok zmt (yX5_lose, cX5_lose, 2, none) (2, 0, tb_X5_lose, cu_X5_lose) := ⟨rfl, Or.inl ⟨rfl, rfl⟩, by decide +kernel, ok_X5_lose⟩
theorem zbo_X5_isOn : zBok zmt (yX5_isOn, cX5_isOn, 2, (some .boolean)) (2, 3, tb_X5_isOn, cu_X5_isOn) := ⟨rfl, Or.inr (Or.inr (Or.inr ⟨rfl, rfl⟩)), by decide +kernel, ok_X5_isOn⟩
theorem zbo_X5_holds : zBok zmt (yX5_holds, cX5_holds, 2, (some .boolean)) (2, 3, tb_X5_holds, cu_X5_holds) := ⟨rfl, Or.inr (Or.inr (Or.inr ⟨rfl, rfl⟩)), by decide +kernel, ok_X5_holds⟩
theorem zbo_X5_isServed : zBok zmt (yX5_isServed, cX5_isServed, 2, (some .boolean)) (2, 3, tb_X5_isServed, cu_X5_isServed) := ⟨rfl, Or.inr (Or.inr (Or.inr ⟨rfl, rfl⟩)), by decide +kernel, ok_X5_isServed⟩
theorem zbo_X5_suits : zBok zmt (yX5_suits, cX5_suits, 3, (some .boolean)) (3, 3, tb_X5_suits, cu_X5_suits) := ⟨rfl, Or.inr (Or.inr (Or.inr ⟨rfl, rfl⟩)), by decide +kernel, ok_X5_suits⟩
theorem zbo_X5_served : zBok zmt (yX5_served, cX5_served, 3, (some .int)) (3, 1, tb_X5_served, cu_X5_served) := ⟨rfl, Or.inr (Or.inl ⟨rfl, rfl⟩), by decide +kernel, ok_X5_served⟩
theorem zbo_X5_howIs : zBok zmt (yX5_howIs, cX5_howIs, 2, (some .int)) (2, 1, tb_X5_howIs, cu_X5_howIs) := ⟨rfl, Or.inr (Or.inl ⟨rfl, rfl⟩), by decide +kernel, ok_X5_howIs⟩
theorem zbo_X5_ownerOf : zBok zmt (yX5_ownerOf, cX5_ownerOf, 3, (some .int)) (3, 1, tb_X5_ownerOf, cu_X5_ownerOf) := ⟨rfl, Or.inr (Or.inl ⟨rfl, rfl⟩), by decide +kernel, ok_X5_ownerOf⟩
theorem zbo_X5_paysOf : zBok zmt (yX5_paysOf, cX5_paysOf, 4, (some .int)) (4, 1, tb_X5_paysOf, cu_X5_paysOf) := ⟨rfl, Or.inr (Or.inl ⟨rfl, rfl⟩), by decide +kernel, ok_X5_paysOf⟩
theorem zbo_X5_payOfStamp : zBok zmt (yX5_payOfStamp, cX5_payOfStamp, 3, (some .int)) (3, 1, tb_X5_payOfStamp, cu_X5_payOfStamp) := ⟨rfl, Or.inr (Or.inl ⟨rfl, rfl⟩), by decide +kernel, ok_X5_payOfStamp⟩
theorem zbo_X5_tearsOf : zBok zmt (yX5_tearsOf, cX5_tearsOf, 4, (some .int)) (4, 1, tb_X5_tearsOf, cu_X5_tearsOf) := ⟨rfl, Or.inr (Or.inl ⟨rfl, rfl⟩), by decide +kernel, ok_X5_tearsOf⟩
theorem zbo_X5_nextTo : zBok zmt (yX5_nextTo, cX5_nextTo, 4, (some .int)) (4, 1, tb_X5_nextTo, cu_X5_nextTo) := ⟨rfl, Or.inr (Or.inl ⟨rfl, rfl⟩), by decide +kernel, ok_X5_nextTo⟩
theorem zbo_X5_partAround : zBok zmt (yX5_partAround, cX5_partAround, 5, (some .int)) (5, 1, tb_X5_partAround, cu_X5_partAround) := ⟨rfl, Or.inr (Or.inl ⟨rfl, rfl⟩), by decide +kernel, ok_X5_partAround⟩
theorem zbo_X5_countParts : zBok zmt (yX5_countParts, cX5_countParts, 4, (some .int)) (4, 1, tb_X5_countParts, cu_X5_countParts) := ⟨rfl, Or.inr (Or.inl ⟨rfl, rfl⟩), by decide +kernel, ok_X5_countParts⟩
theorem zbo_X5_partNumber : zBok zmt (yX5_partNumber, cX5_partNumber, 5, (some .int)) (5, 1, tb_X5_partNumber, cu_X5_partNumber) := ⟨rfl, Or.inr (Or.inl ⟨rfl, rfl⟩), by decide +kernel, ok_X5_partNumber⟩
theorem zbo_X5_stepsBetween : zBok zmt (yX5_stepsBetween, cX5_stepsBetween, 5, (some .int)) (5, 1, tb_X5_stepsBetween, cu_X5_stepsBetween) := ⟨rfl, Or.inr (Or.inl ⟨rfl, rfl⟩), by decide +kernel, ok_X5_stepsBetween⟩
theorem zbo_X5_firstStep : zBok zmt (yX5_firstStep, cX5_firstStep, 6, (some .int)) (6, 1, tb_X5_firstStep, cu_X5_firstStep) := ⟨rfl, Or.inr (Or.inl ⟨rfl, rfl⟩), by decide +kernel, ok_X5_firstStep⟩
theorem zbo_X6_takeCells : zBok zmt (yX6_takeCells, cX6_takeCells, 8, (some .boolean)) (8, 3, tb_X6_takeCells, cu_X6_takeCells) := ⟨rfl, Or.inr (Or.inr (Or.inr ⟨rfl, rfl⟩)), by decide +kernel, ok_X6_takeCells⟩
theorem zbo_X6_takePays : zBok zmt (yX6_takePays, cX6_takePays, 4, none) (4, 0, tb_X6_takePays, cu_X6_takePays) := ⟨rfl, Or.inl ⟨rfl, rfl⟩, by decide +kernel, ok_X6_takePays⟩
theorem zbo_X6_isSo : zBok zmt (yX6_isSo, cX6_isSo, 4, (some .boolean)) (4, 3, tb_X6_isSo, cu_X6_isSo) := ⟨rfl, Or.inr (Or.inr (Or.inr ⟨rfl, rfl⟩)), by decide +kernel, ok_X6_isSo⟩
theorem zbo_X7_row : zBok zmt (yX7_row, cX7_row, 4, (some .int)) (4, 1, tb_X7_row, cu_X7_row) := ⟨rfl, Or.inr (Or.inl ⟨rfl, rfl⟩), by decide +kernel, ok_X7_row⟩
theorem zbo_X7_set : zBok zmt (yX7_set, cX7_set, 4, (some .int)) (4, 1, tb_X7_set, cu_X7_set) := ⟨rfl, Or.inr (Or.inl ⟨rfl, rfl⟩), by decide +kernel, ok_X7_set⟩
theorem zbo_X7_copy : zBok zmt (yX7_copy, cX7_copy, 8, (some .int)) (8, 1, tb_X7_copy, cu_X7_copy) := ⟨rfl, Or.inr (Or.inl ⟨rfl, rfl⟩), by decide +kernel, ok_X7_copy⟩
theorem zbo_X7_drop : zBok zmt (yX7_drop, cX7_drop, 2, (some .int)) (2, 1, tb_X7_drop, cu_X7_drop) := ⟨rfl, Or.inr (Or.inl ⟨rfl, rfl⟩), by decide +kernel, ok_X7_drop⟩
theorem zbo_X7_feed : zBok zmt (yX7_feed, cX7_feed, 2, (some .int)) (2, 1, tb_X7_feed, cu_X7_feed) := ⟨rfl, Or.inr (Or.inl ⟨rfl, rfl⟩), by decide +kernel, ok_X7_feed⟩
theorem zbo_X7_sheet : zBok zmt (yX7_sheet, cX7_sheet, 1, (some .int)) (1, 1, tb_X7_sheet, cu_X7_sheet) := ⟨rfl, Or.inr (Or.inl ⟨rfl, rfl⟩), by decide +kernel, ok_X7_sheet⟩
theorem zbo_X7_fault : zBok zmt (yX7_fault, cX7_fault, 1, (some .int)) (1, 1, tb_X7_fault, cu_X7_fault) := ⟨rfl, Or.inr (Or.inl ⟨rfl, rfl⟩), by decide +kernel, ok_X7_fault⟩
theorem zbo_X7_undo : zBok zmt (yX7_undo, cX7_undo, 1, (some .int)) (1, 1, tb_X7_undo, cu_X7_undo) := ⟨rfl, Or.inr (Or.inl ⟨rfl, rfl⟩), by decide +kernel, ok_X7_undo⟩
theorem zbo_X7_serve : zBok zmt (yX7_serve, cX7_serve, 4, (some .int)) (4, 1, tb_X7_serve, cu_X7_serve) := ⟨rfl, Or.inr (Or.inl ⟨rfl, rfl⟩), by decide +kernel, ok_X7_serve⟩
theorem zbo_X7_bringBack : zBok zmt (yX7_bringBack, cX7_bringBack, 3, (some .int)) (3, 1, tb_X7_bringBack, cu_X7_bringBack) := ⟨rfl, Or.inr (Or.inl ⟨rfl, rfl⟩), by decide +kernel, ok_X7_bringBack⟩
theorem zbo_X7_spoil : zBok zmt (yX7_spoil, cX7_spoil, 2, (some .int)) (2, 1, tb_X7_spoil, cu_X7_spoil) := ⟨rfl, Or.inr (Or.inl ⟨rfl, rfl⟩), by decide +kernel, ok_X7_spoil⟩
theorem zbo_X7_value : zBok zmt (yX7_value, cX7_value, 4, (some .int)) (4, 1, tb_X7_value, cu_X7_value) := ⟨rfl, Or.inr (Or.inl ⟨rfl, rfl⟩), by decide +kernel, ok_X7_value⟩
theorem zbo_X7_over : zBok zmt (yX7_over, cX7_over, 3, (some .int)) (3, 1, tb_X7_over, cu_X7_over) := ⟨rfl, Or.inr (Or.inl ⟨rfl, rfl⟩), by decide +kernel, ok_X7_over⟩
theorem zbo_X7_cell : zBok zmt (yX7_cell, cX7_cell, 3, (some .int)) (3, 1, tb_X7_cell, cu_X7_cell) := ⟨rfl, Or.inr (Or.inl ⟨rfl, rfl⟩), by decide +kernel, ok_X7_cell⟩
theorem zbo_X7_customer : zBok zmt (yX7_customer, cX7_customer, 3, (some .int)) (3, 1, tb_X7_customer, cu_X7_customer) := ⟨rfl, Or.inr (Or.inl ⟨rfl, rfl⟩), by decide +kernel, ok_X7_customer⟩
theorem zbo_X7_stand : zBok zmt (yX7_stand, cX7_stand, 2, (some .int)) (2, 1, tb_X7_stand, cu_X7_stand) := ⟨rfl, Or.inr (Or.inl ⟨rfl, rfl⟩), by decide +kernel, ok_X7_stand⟩
theorem zbo_X7_piece : zBok zmt (yX7_piece, cX7_piece, 3, (some .int)) (3, 1, tb_X7_piece, cu_X7_piece) := ⟨rfl, Or.inr (Or.inl ⟨rfl, rfl⟩), by decide +kernel, ok_X7_piece⟩
theorem zbo_X7_parts : zBok zmt (yX7_parts, cX7_parts, 2, (some .int)) (2, 1, tb_X7_parts, cu_X7_parts) := ⟨rfl, Or.inr (Or.inl ⟨rfl, rfl⟩), by decide +kernel, ok_X7_parts⟩
theorem zbo_X7_pieces : zBok zmt (yX7_pieces, cX7_pieces, 3, (some .int)) (3, 1, tb_X7_pieces, cu_X7_pieces) := ⟨rfl, Or.inr (Or.inl ⟨rfl, rfl⟩), by decide +kernel, ok_X7_pieces⟩
theorem zbo_X7_sums : zBok zmt (yX7_sums, cX7_sums, 2, (some .int)) (2, 1, tb_X7_sums, cu_X7_sums) := ⟨rfl, Or.inr (Or.inl ⟨rfl, rfl⟩), by decide +kernel, ok_X7_sums⟩
theorem zbo_X7_best : zBok zmt (yX7_best, cX7_best, 4, (some .int)) (4, 1, tb_X7_best, cu_X7_best) := ⟨rfl, Or.inr (Or.inl ⟨rfl, rfl⟩), by decide +kernel, ok_X7_best⟩
theorem zbo_X7_ways : zBok zmt (yX7_ways, cX7_ways, 2, (some .int)) (2, 1, tb_X7_ways, cu_X7_ways) := ⟨rfl, Or.inr (Or.inl ⟨rfl, rfl⟩), by decide +kernel, ok_X7_ways⟩
theorem zbo_X7_thrift : zBok zmt (yX7_thrift, cX7_thrift, 4, (some .int)) (4, 1, tb_X7_thrift, cu_X7_thrift) := ⟨rfl, Or.inr (Or.inl ⟨rfl, rfl⟩), by decide +kernel, ok_X7_thrift⟩
theorem zbo_X7_serving : zBok zmt (yX7_serving, cX7_serving, 3, (some .int)) (3, 1, tb_X7_serving, cu_X7_serving) := ⟨rfl, Or.inr (Or.inl ⟨rfl, rfl⟩), by decide +kernel, ok_X7_serving⟩
theorem zbo_X7_couples : zBok zmt (yX7_couples, cX7_couples, 1, (some .int)) (1, 1, tb_X7_couples, cu_X7_couples) := ⟨rfl, Or.inr (Or.inl ⟨rfl, rfl⟩), by decide +kernel, ok_X7_couples⟩
theorem zbo_X7_parting : zBok zmt (yX7_parting, cX7_parting, 5, (some .int)) (5, 1, tb_X7_parting, cu_X7_parting) := ⟨rfl, Or.inr (Or.inl ⟨rfl, rfl⟩), by decide +kernel, ok_X7_parting⟩
theorem zbo_X7_way : zBok zmt (yX7_way, cX7_way, 4, (some .int)) (4, 1, tb_X7_way, cu_X7_way) := ⟨rfl, Or.inr (Or.inl ⟨rfl, rfl⟩), by decide +kernel, ok_X7_way⟩
theorem zbo_X7_lone : zBok zmt (yX7_lone, cX7_lone, 4, (some .int)) (4, 1, tb_X7_lone, cu_X7_lone) := ⟨rfl, Or.inr (Or.inl ⟨rfl, rfl⟩), by decide +kernel, ok_X7_lone⟩
theorem zbo_X7_who : zBok zmt (yX7_who, cX7_who, 9, (some .int)) (9, 1, tb_X7_who, cu_X7_who) := ⟨rfl, Or.inr (Or.inl ⟨rfl, rfl⟩), by decide +kernel, ok_X7_who⟩
theorem zbo_X7_fits : zBok zmt (yX7_fits, cX7_fits, 8, (some .int)) (8, 1, tb_X7_fits, cu_X7_fits) := ⟨rfl, Or.inr (Or.inl ⟨rfl, rfl⟩), by decide +kernel, ok_X7_fits⟩
theorem zbo_X7_wrong : zBok zmt (yX7_wrong, cX7_wrong, 11, (some .long)) (11, 2, tb_X7_wrong, cu_X7_wrong) := ⟨rfl, Or.inr (Or.inr (Or.inl ⟨rfl, rfl⟩)), by decide +kernel, ok_X7_wrong⟩
theorem zbo_X7_drawn : zBok zmt (yX7_drawn, cX7_drawn, 7, (some .int)) (7, 1, tb_X7_drawn, cu_X7_drawn) := ⟨rfl, Or.inr (Or.inl ⟨rfl, rfl⟩), by decide +kernel, ok_X7_drawn⟩
theorem zbo_X7_image : zBok zmt (yX7_image, cX7_image, 2, (some .int)) (2, 1, tb_X7_image, cu_X7_image) := ⟨rfl, Or.inr (Or.inl ⟨rfl, rfl⟩), by decide +kernel, ok_X7_image⟩
theorem zbo_X7_restore : zBok zmt (yX7_restore, cX7_restore, 2, (some .int)) (2, 1, tb_X7_restore, cu_X7_restore) := ⟨rfl, Or.inr (Or.inl ⟨rfl, rfl⟩), by decide +kernel, ok_X7_restore⟩
theorem zbo_X7_kind : zBok zmt (yX7_kind, cX7_kind, 2, (some .int)) (2, 1, tb_X7_kind, cu_X7_kind) := ⟨rfl, Or.inr (Or.inl ⟨rfl, rfl⟩), by decide +kernel, ok_X7_kind⟩
theorem zbo_X7_as : zBok zmt (yX7_as, cX7_as, 3, (some .int)) (3, 1, tb_X7_as, cu_X7_as) := ⟨rfl, Or.inr (Or.inl ⟨rfl, rfl⟩), by decide +kernel, ok_X7_as⟩
theorem zbo_X7_ask : zBok zmt (yX7_ask, cX7_ask, 3, (some .int)) (3, 1, tb_X7_ask, cu_X7_ask) := ⟨rfl, Or.inr (Or.inl ⟨rfl, rfl⟩), by decide +kernel, ok_X7_ask⟩
theorem zbo_X7_trace : zBok zmt (yX7_trace, cX7_trace, 2, (some .int)) (2, 1, tb_X7_trace, cu_X7_trace) := ⟨rfl, Or.inr (Or.inl ⟨rfl, rfl⟩), by decide +kernel, ok_X7_trace⟩
theorem zbo_X7_count : zBok zmt (yX7_count, cX7_count, 2, (some .int)) (2, 1, tb_X7_count, cu_X7_count) := ⟨rfl, Or.inr (Or.inl ⟨rfl, rfl⟩), by decide +kernel, ok_X7_count⟩
theorem zbo_X7_status : zBok zmt (yX7_status, cX7_status, 1, (some .int)) (1, 1, tb_X7_status, cu_X7_status) := ⟨rfl, Or.inr (Or.inl ⟨rfl, rfl⟩), by decide +kernel, ok_X7_status⟩
theorem zbo_X7_found : zBok zmt (yX7_found, cX7_found, 2, (some .int)) (2, 1, tb_X7_found, cu_X7_found) := ⟨rfl, Or.inr (Or.inl ⟨rfl, rfl⟩), by decide +kernel, ok_X7_found⟩
theorem zbo_X7_fine : zBok zmt (yX7_fine, cX7_fine, 2, (some .int)) (2, 1, tb_X7_fine, cu_X7_fine) := ⟨rfl, Or.inr (Or.inl ⟨rfl, rfl⟩), by decide +kernel, ok_X7_fine⟩
theorem zbo_X7_isThere : zBok zmt (yX7_isThere, cX7_isThere, 1, (some .boolean)) (1, 3, tb_X7_isThere, cu_X7_isThere) := ⟨rfl, Or.inr (Or.inr (Or.inr ⟨rfl, rfl⟩)), by decide +kernel, ok_X7_isThere⟩
theorem zbo_X7_isCell : zBok zmt (yX7_isCell, cX7_isCell, 2, (some .boolean)) (2, 3, tb_X7_isCell, cu_X7_isCell) := ⟨rfl, Or.inr (Or.inr (Or.inr ⟨rfl, rfl⟩)), by decide +kernel, ok_X7_isCell⟩
theorem zbo_X7_areTwoCells : zBok zmt (yX7_areTwoCells, cX7_areTwoCells, 3, (some .boolean)) (3, 3, tb_X7_areTwoCells, cu_X7_areTwoCells) := ⟨rfl, Or.inr (Or.inr (Or.inr ⟨rfl, rfl⟩)), by decide +kernel, ok_X7_areTwoCells⟩
theorem zbo_X7_isCustomer : zBok zmt (yX7_isCustomer, cX7_isCustomer, 2, (some .boolean)) (2, 3, tb_X7_isCustomer, cu_X7_isCustomer) := ⟨rfl, Or.inr (Or.inr (Or.inr ⟨rfl, rfl⟩)), by decide +kernel, ok_X7_isCustomer⟩
theorem zbo_X7_isRow : zBok zmt (yX7_isRow, cX7_isRow, 1, (some .boolean)) (1, 3, tb_X7_isRow, cu_X7_isRow) := ⟨rfl, Or.inr (Or.inr (Or.inr ⟨rfl, rfl⟩)), by decide +kernel, ok_X7_isRow⟩
theorem zbo_X7_isFigure : zBok zmt (yX7_isFigure, cX7_isFigure, 1, (some .boolean)) (1, 3, tb_X7_isFigure, cu_X7_isFigure) := ⟨rfl, Or.inr (Or.inr (Or.inr ⟨rfl, rfl⟩)), by decide +kernel, ok_X7_isFigure⟩
theorem zbo_X7_isEither : zBok zmt (yX7_isEither, cX7_isEither, 1, (some .boolean)) (1, 3, tb_X7_isEither, cu_X7_isEither) := ⟨rfl, Or.inr (Or.inr (Or.inr ⟨rfl, rfl⟩)), by decide +kernel, ok_X7_isEither⟩
theorem zbo_X7_areRowsOf : zBok zmt (yX7_areRowsOf, cX7_areRowsOf, 3, (some .boolean)) (3, 3, tb_X7_areRowsOf, cu_X7_areRowsOf) := ⟨rfl, Or.inr (Or.inr (Or.inr ⟨rfl, rfl⟩)), by decide +kernel, ok_X7_areRowsOf⟩
theorem zbo_X7_countRows : zBok zmt (yX7_countRows, cX7_countRows, 3, (some .int)) (3, 1, tb_X7_countRows, cu_X7_countRows) := ⟨rfl, Or.inr (Or.inl ⟨rfl, rfl⟩), by decide +kernel, ok_X7_countRows⟩
theorem zbo_X7_putInPlace : zBok zmt (yX7_putInPlace, cX7_putInPlace, 2, none) (2, 0, tb_X7_putInPlace, cu_X7_putInPlace) := ⟨rfl, Or.inl ⟨rfl, rfl⟩, by decide +kernel, ok_X7_putInPlace⟩
theorem zbo_X7_liveDay : zBok zmt (yX7_liveDay, cX7_liveDay, 6, none) (6, 0, tb_X7_liveDay, cu_X7_liveDay) := ⟨rfl, Or.inl ⟨rfl, rfl⟩, by decide +kernel, ok_X7_liveDay⟩
theorem zbo_X7_restBy : zBok zmt (yX7_restBy, cX7_restBy, 3, (some .int)) (3, 1, tb_X7_restBy, cu_X7_restBy) := ⟨rfl, Or.inr (Or.inl ⟨rfl, rfl⟩), by decide +kernel, ok_X7_restBy⟩
theorem zbo_X7_powerOf : zBok zmt (yX7_powerOf, cX7_powerOf, 6, (some .long)) (6, 2, tb_X7_powerOf, cu_X7_powerOf) := ⟨rfl, Or.inr (Or.inr (Or.inl ⟨rfl, rfl⟩)), by decide +kernel, ok_X7_powerOf⟩
theorem zbo_X7_commonDivisor : zBok zmt (yX7_commonDivisor, cX7_commonDivisor, 11, (some .long)) (11, 2, tb_X7_commonDivisor, cu_X7_commonDivisor) := ⟨rfl, Or.inr (Or.inr (Or.inl ⟨rfl, rfl⟩)), by decide +kernel, ok_X7_commonDivisor⟩
theorem zbo_X7_takeTold : zBok zmt (yX7_takeTold, cX7_takeTold, 8, (some .int)) (8, 1, tb_X7_takeTold, cu_X7_takeTold) := ⟨rfl, Or.inr (Or.inl ⟨rfl, rfl⟩), by decide +kernel, ok_X7_takeTold⟩
theorem zbo_X7_kindsThatFit : zBok zmt (yX7_kindsThatFit, cX7_kindsThatFit, 4, (some .int)) (4, 1, tb_X7_kindsThatFit, cu_X7_kindsThatFit) := ⟨rfl, Or.inr (Or.inl ⟨rfl, rfl⟩), by decide +kernel, ok_X7_kindsThatFit⟩
theorem zbo_X7_valuesThatFit : zBok zmt (yX7_valuesThatFit, cX7_valuesThatFit, 4, (some .int)) (4, 1, tb_X7_valuesThatFit, cu_X7_valuesThatFit) := ⟨rfl, Or.inr (Or.inl ⟨rfl, rfl⟩), by decide +kernel, ok_X7_valuesThatFit⟩
theorem zbo_X7_oversThatFit : zBok zmt (yX7_oversThatFit, cX7_oversThatFit, 3, (some .int)) (3, 1, tb_X7_oversThatFit, cu_X7_oversThatFit) := ⟨rfl, Or.inr (Or.inl ⟨rfl, rfl⟩), by decide +kernel, ok_X7_oversThatFit⟩
theorem zbo_X7_countSwaps : zBok zmt (yX7_countSwaps, cX7_countSwaps, 4, (some .int)) (4, 1, tb_X7_countSwaps, cu_X7_countSwaps) := ⟨rfl, Or.inr (Or.inl ⟨rfl, rfl⟩), by decide +kernel, ok_X7_countSwaps⟩
theorem zbo_X7_firstSwap : zBok zmt (yX7_firstSwap, cX7_firstSwap, 3, (some .int)) (3, 1, tb_X7_firstSwap, cu_X7_firstSwap) := ⟨rfl, Or.inr (Or.inl ⟨rfl, rfl⟩), by decide +kernel, ok_X7_firstSwap⟩
theorem zbo_X7_fitsSwapped : zBok zmt (yX7_fitsSwapped, cX7_fitsSwapped, 3, (some .boolean)) (3, 3, tb_X7_fitsSwapped, cu_X7_fitsSwapped) := ⟨rfl, Or.inr (Or.inr (Or.inr ⟨rfl, rfl⟩)), by decide +kernel, ok_X7_fitsSwapped⟩
theorem zbo_X8_in : zBok zmt (yX8_in, cX8_in, 3, (some .boolean)) (3, 3, tb_X8_in, cu_X8_in) := ⟨rfl, Or.inr (Or.inr (Or.inr ⟨rfl, rfl⟩)), by decide +kernel, ok_X8_in⟩
theorem zbo_X8_has : zBok zmt (yX8_has, cX8_has, 2, (some .boolean)) (2, 3, tb_X8_has, cu_X8_has) := ⟨rfl, Or.inr (Or.inr (Or.inr ⟨rfl, rfl⟩)), by decide +kernel, ok_X8_has⟩
theorem zbo_X8_ones : zBok zmt (yX8_ones, cX8_ones, 3, (some .int)) (3, 1, tb_X8_ones, cu_X8_ones) := ⟨rfl, Or.inr (Or.inl ⟨rfl, rfl⟩), by decide +kernel, ok_X8_ones⟩
theorem zbo_X8_isRow : zBok zmt (yX8_isRow, cX8_isRow, 1, (some .boolean)) (1, 3, tb_X8_isRow, cu_X8_isRow) := ⟨rfl, Or.inr (Or.inr (Or.inr ⟨rfl, rfl⟩)), by decide +kernel, ok_X8_isRow⟩
theorem zbo_X8_finds : zBok zmt (yX8_finds, cX8_finds, 2, (some .int)) (2, 1, tb_X8_finds, cu_X8_finds) := ⟨rfl, Or.inr (Or.inl ⟨rfl, rfl⟩), by decide +kernel, ok_X8_finds⟩
theorem zbo_X8_row : zBok zmt (yX8_row, cX8_row, 5, (some .int)) (5, 1, tb_X8_row, cu_X8_row) := ⟨rfl, Or.inr (Or.inl ⟨rfl, rfl⟩), by decide +kernel, ok_X8_row⟩
theorem zbo_X8_set : zBok zmt (yX8_set, cX8_set, 5, (some .int)) (5, 1, tb_X8_set, cu_X8_set) := ⟨rfl, Or.inr (Or.inl ⟨rfl, rfl⟩), by decide +kernel, ok_X8_set⟩
theorem zbo_X8_isPlace : zBok zmt (yX8_isPlace, cX8_isPlace, 4, (some .boolean)) (4, 3, tb_X8_isPlace, cu_X8_isPlace) := ⟨rfl, Or.inr (Or.inr (Or.inr ⟨rfl, rfl⟩)), by decide +kernel, ok_X8_isPlace⟩
theorem zbo_X8_copy : zBok zmt (yX8_copy, cX8_copy, 7, (some .int)) (7, 1, tb_X8_copy, cu_X8_copy) := ⟨rfl, Or.inr (Or.inl ⟨rfl, rfl⟩), by decide +kernel, ok_X8_copy⟩
theorem zbo_X8_drop : zBok zmt (yX8_drop, cX8_drop, 3, (some .int)) (3, 1, tb_X8_drop, cu_X8_drop) := ⟨rfl, Or.inr (Or.inl ⟨rfl, rfl⟩), by decide +kernel, ok_X8_drop⟩
theorem zbo_X8_feed : zBok zmt (yX8_feed, cX8_feed, 2, (some .int)) (2, 1, tb_X8_feed, cu_X8_feed) := ⟨rfl, Or.inr (Or.inl ⟨rfl, rfl⟩), by decide +kernel, ok_X8_feed⟩
theorem zbo_X8_byteAt : zBok zmt (yX8_byteAt, cX8_byteAt, 2, (some .int)) (2, 1, tb_X8_byteAt, cu_X8_byteAt) := ⟨rfl, Or.inr (Or.inl ⟨rfl, rfl⟩), by decide +kernel, ok_X8_byteAt⟩
theorem zbo_X8_isFigure : zBok zmt (yX8_isFigure, cX8_isFigure, 1, (some .boolean)) (1, 3, tb_X8_isFigure, cu_X8_isFigure) := ⟨rfl, Or.inr (Or.inr (Or.inr ⟨rfl, rfl⟩)), by decide +kernel, ok_X8_isFigure⟩
theorem zbo_X8_wrongs : zBok zmt (yX8_wrongs, cX8_wrongs, 2, (some .boolean)) (2, 3, tb_X8_wrongs, cu_X8_wrongs) := ⟨rfl, Or.inr (Or.inr (Or.inr ⟨rfl, rfl⟩)), by decide +kernel, ok_X8_wrongs⟩
theorem zbo_X8_takes : zBok zmt (yX8_takes, cX8_takes, 2, (some .boolean)) (2, 3, tb_X8_takes, cu_X8_takes) := ⟨rfl, Or.inr (Or.inr (Or.inr ⟨rfl, rfl⟩)), by decide +kernel, ok_X8_takes⟩
theorem zbo_X8_number : zBok zmt (yX8_number, cX8_number, 5, (some .boolean)) (5, 3, tb_X8_number, cu_X8_number) := ⟨rfl, Or.inr (Or.inr (Or.inr ⟨rfl, rfl⟩)), by decide +kernel, ok_X8_number⟩
theorem zbo_X8_kindBy : zBok zmt (yX8_kindBy, cX8_kindBy, 1, (some .int)) (1, 1, tb_X8_kindBy, cu_X8_kindBy) := ⟨rfl, Or.inr (Or.inl ⟨rfl, rfl⟩), by decide +kernel, ok_X8_kindBy⟩
theorem zbo_X8_readsLaw : zBok zmt (yX8_readsLaw, cX8_readsLaw, 2, (some .boolean)) (2, 3, tb_X8_readsLaw, cu_X8_readsLaw) := ⟨rfl, Or.inr (Or.inr (Or.inr ⟨rfl, rfl⟩)), by decide +kernel, ok_X8_readsLaw⟩
theorem zbo_X8_readsStamp : zBok zmt (yX8_readsStamp, cX8_readsStamp, 3, (some .boolean)) (3, 3, tb_X8_readsStamp, cu_X8_readsStamp) := ⟨rfl, Or.inr (Or.inr (Or.inr ⟨rfl, rfl⟩)), by decide +kernel, ok_X8_readsStamp⟩
theorem zbo_X8_readsCustomer : zBok zmt (yX8_readsCustomer, cX8_readsCustomer, 2, (some .boolean)) (2, 3, tb_X8_readsCustomer, cu_X8_readsCustomer) := ⟨rfl, Or.inr (Or.inr (Or.inr ⟨rfl, rfl⟩)), by decide +kernel, ok_X8_readsCustomer⟩
theorem zbo_X8_reads : zBok zmt (yX8_reads, cX8_reads, 2, (some .boolean)) (2, 3, tb_X8_reads, cu_X8_reads) := ⟨rfl, Or.inr (Or.inr (Or.inr ⟨rfl, rfl⟩)), by decide +kernel, ok_X8_reads⟩
theorem zbo_X8_joins : zBok zmt (yX8_joins, cX8_joins, 5, none) (5, 0, tb_X8_joins, cu_X8_joins) := ⟨rfl, Or.inl ⟨rfl, rfl⟩, by decide +kernel, ok_X8_joins⟩
theorem zbo_X8_sheet : zBok zmt (yX8_sheet, cX8_sheet, 3, (some .int)) (3, 1, tb_X8_sheet, cu_X8_sheet) := ⟨rfl, Or.inr (Or.inl ⟨rfl, rfl⟩), by decide +kernel, ok_X8_sheet⟩
theorem zbo_X8_fault : zBok zmt (yX8_fault, cX8_fault, 1, (some .int)) (1, 1, tb_X8_fault, cu_X8_fault) := ⟨rfl, Or.inr (Or.inl ⟨rfl, rfl⟩), by decide +kernel, ok_X8_fault⟩
theorem zbo_X8_keeps : zBok zmt (yX8_keeps, cX8_keeps, 2, none) (2, 0, tb_X8_keeps, cu_X8_keeps) := ⟨rfl, Or.inl ⟨rfl, rfl⟩, by decide +kernel, ok_X8_keeps⟩
theorem zbo_X8_undo : zBok zmt (yX8_undo, cX8_undo, 2, (some .int)) (2, 1, tb_X8_undo, cu_X8_undo) := ⟨rfl, Or.inr (Or.inl ⟨rfl, rfl⟩), by decide +kernel, ok_X8_undo⟩
theorem zbo_X8_isCell : zBok zmt (yX8_isCell, cX8_isCell, 2, (some .boolean)) (2, 3, tb_X8_isCell, cu_X8_isCell) := ⟨rfl, Or.inr (Or.inr (Or.inr ⟨rfl, rfl⟩)), by decide +kernel, ok_X8_isCell⟩
theorem zbo_X8_isCustomer : zBok zmt (yX8_isCustomer, cX8_isCustomer, 2, (some .boolean)) (2, 3, tb_X8_isCustomer, cu_X8_isCustomer) := ⟨rfl, Or.inr (Or.inr (Or.inr ⟨rfl, rfl⟩)), by decide +kernel, ok_X8_isCustomer⟩
theorem zbo_X8_gone : zBok zmt (yX8_gone, cX8_gone, 3, (some .int)) (3, 1, tb_X8_gone, cu_X8_gone) := ⟨rfl, Or.inr (Or.inl ⟨rfl, rfl⟩), by decide +kernel, ok_X8_gone⟩
theorem zbo_X8_on : zBok zmt (yX8_on, cX8_on, 1, (some .int)) (1, 1, tb_X8_on, cu_X8_on) := ⟨rfl, Or.inr (Or.inl ⟨rfl, rfl⟩), by decide +kernel, ok_X8_on⟩
theorem zbo_X8_servedNow : zBok zmt (yX8_servedNow, cX8_servedNow, 3, (some .int)) (3, 1, tb_X8_servedNow, cu_X8_servedNow) := ⟨rfl, Or.inr (Or.inl ⟨rfl, rfl⟩), by decide +kernel, ok_X8_servedNow⟩
theorem zbo_X8_reach : zBok zmt (yX8_reach, cX8_reach, 6, (some .int)) (6, 1, tb_X8_reach, cu_X8_reach) := ⟨rfl, Or.inr (Or.inl ⟨rfl, rfl⟩), by decide +kernel, ok_X8_reach⟩
theorem zbo_X8_lowest : zBok zmt (yX8_lowest, cX8_lowest, 2, (some .int)) (2, 1, tb_X8_lowest, cu_X8_lowest) := ⟨rfl, Or.inr (Or.inl ⟨rfl, rfl⟩), by decide +kernel, ok_X8_lowest⟩
theorem zbo_X8_hangs : zBok zmt (yX8_hangs, cX8_hangs, 2, (some .boolean)) (2, 3, tb_X8_hangs, cu_X8_hangs) := ⟨rfl, Or.inr (Or.inr (Or.inr ⟨rfl, rfl⟩)), by decide +kernel, ok_X8_hangs⟩
theorem zbo_X8_isPiece : zBok zmt (yX8_isPiece, cX8_isPiece, 2, (some .boolean)) (2, 3, tb_X8_isPiece, cu_X8_isPiece) := ⟨rfl, Or.inr (Or.inr (Or.inr ⟨rfl, rfl⟩)), by decide +kernel, ok_X8_isPiece⟩
theorem zbo_X8_pays : zBok zmt (yX8_pays, cX8_pays, 8, (some .int)) (8, 1, tb_X8_pays, cu_X8_pays) := ⟨rfl, Or.inr (Or.inl ⟨rfl, rfl⟩), by decide +kernel, ok_X8_pays⟩
theorem zbo_X8_tears : zBok zmt (yX8_tears, cX8_tears, 4, (some .int)) (4, 1, tb_X8_tears, cu_X8_tears) := ⟨rfl, Or.inr (Or.inl ⟨rfl, rfl⟩), by decide +kernel, ok_X8_tears⟩
theorem zbo_X8_serves : zBok zmt (yX8_serves, cX8_serves, 3, none) (3, 0, tb_X8_serves, cu_X8_serves) := ⟨rfl, Or.inl ⟨rfl, rfl⟩, by decide +kernel, ok_X8_serves⟩
theorem zbo_X8_serve : zBok zmt (yX8_serve, cX8_serve, 4, (some .int)) (4, 1, tb_X8_serve, cu_X8_serve) := ⟨rfl, Or.inr (Or.inl ⟨rfl, rfl⟩), by decide +kernel, ok_X8_serve⟩
theorem zbo_X8_bringBack : zBok zmt (yX8_bringBack, cX8_bringBack, 3, (some .int)) (3, 1, tb_X8_bringBack, cu_X8_bringBack) := ⟨rfl, Or.inr (Or.inl ⟨rfl, rfl⟩), by decide +kernel, ok_X8_bringBack⟩
theorem zbo_X8_spoil : zBok zmt (yX8_spoil, cX8_spoil, 2, (some .int)) (2, 1, tb_X8_spoil, cu_X8_spoil) := ⟨rfl, Or.inr (Or.inl ⟨rfl, rfl⟩), by decide +kernel, ok_X8_spoil⟩
theorem zbo_X8_value : zBok zmt (yX8_value, cX8_value, 4, (some .int)) (4, 1, tb_X8_value, cu_X8_value) := ⟨rfl, Or.inr (Or.inl ⟨rfl, rfl⟩), by decide +kernel, ok_X8_value⟩
theorem zbo_X8_over : zBok zmt (yX8_over, cX8_over, 3, (some .int)) (3, 1, tb_X8_over, cu_X8_over) := ⟨rfl, Or.inr (Or.inl ⟨rfl, rfl⟩), by decide +kernel, ok_X8_over⟩
theorem zbo_X8_ownerOf : zBok zmt (yX8_ownerOf, cX8_ownerOf, 4, (some .int)) (4, 1, tb_X8_ownerOf, cu_X8_ownerOf) := ⟨rfl, Or.inr (Or.inl ⟨rfl, rfl⟩), by decide +kernel, ok_X8_ownerOf⟩
theorem zbo_X8_cell : zBok zmt (yX8_cell, cX8_cell, 3, (some .int)) (3, 1, tb_X8_cell, cu_X8_cell) := ⟨rfl, Or.inr (Or.inl ⟨rfl, rfl⟩), by decide +kernel, ok_X8_cell⟩
theorem zbo_X8_customer : zBok zmt (yX8_customer, cX8_customer, 3, (some .int)) (3, 1, tb_X8_customer, cu_X8_customer) := ⟨rfl, Or.inr (Or.inl ⟨rfl, rfl⟩), by decide +kernel, ok_X8_customer⟩
theorem zbo_X8_stand : zBok zmt (yX8_stand, cX8_stand, 2, (some .int)) (2, 1, tb_X8_stand, cu_X8_stand) := ⟨rfl, Or.inr (Or.inl ⟨rfl, rfl⟩), by decide +kernel, ok_X8_stand⟩
theorem zbo_X8_partOf : zBok zmt (yX8_partOf, cX8_partOf, 5, (some .int)) (5, 1, tb_X8_partOf, cu_X8_partOf) := ⟨rfl, Or.inr (Or.inl ⟨rfl, rfl⟩), by decide +kernel, ok_X8_partOf⟩
theorem zbo_X8_manyParts : zBok zmt (yX8_manyParts, cX8_manyParts, 3, (some .int)) (3, 1, tb_X8_manyParts, cu_X8_manyParts) := ⟨rfl, Or.inr (Or.inl ⟨rfl, rfl⟩), by decide +kernel, ok_X8_manyParts⟩
theorem zbo_X8_piece : zBok zmt (yX8_piece, cX8_piece, 3, (some .int)) (3, 1, tb_X8_piece, cu_X8_piece) := ⟨rfl, Or.inr (Or.inl ⟨rfl, rfl⟩), by decide +kernel, ok_X8_piece⟩
theorem zbo_X8_parts : zBok zmt (yX8_parts, cX8_parts, 3, (some .int)) (3, 1, tb_X8_parts, cu_X8_parts) := ⟨rfl, Or.inr (Or.inl ⟨rfl, rfl⟩), by decide +kernel, ok_X8_parts⟩
theorem zbo_X8_surveys : zBok zmt (yX8_surveys, cX8_surveys, 2, none) (2, 0, tb_X8_surveys, cu_X8_surveys) := ⟨rfl, Or.inl ⟨rfl, rfl⟩, by decide +kernel, ok_X8_surveys⟩
theorem zbo_X8_paysBy : zBok zmt (yX8_paysBy, cX8_paysBy, 2, (some .int)) (2, 1, tb_X8_paysBy, cu_X8_paysBy) := ⟨rfl, Or.inr (Or.inl ⟨rfl, rfl⟩), by decide +kernel, ok_X8_paysBy⟩
theorem zbo_X8_isStraight : zBok zmt (yX8_isStraight, cX8_isStraight, 6, (some .boolean)) (6, 3, tb_X8_isStraight, cu_X8_isStraight) := ⟨rfl, Or.inr (Or.inr (Or.inr ⟨rfl, rfl⟩)), by decide +kernel, ok_X8_isStraight⟩
theorem zbo_X8_pieces : zBok zmt (yX8_pieces, cX8_pieces, 6, (some .int)) (6, 1, tb_X8_pieces, cu_X8_pieces) := ⟨rfl, Or.inr (Or.inl ⟨rfl, rfl⟩), by decide +kernel, ok_X8_pieces⟩
theorem zbo_X8_sums : zBok zmt (yX8_sums, cX8_sums, 11, (some .int)) (11, 1, tb_X8_sums, cu_X8_sums) := ⟨rfl, Or.inr (Or.inl ⟨rfl, rfl⟩), by decide +kernel, ok_X8_sums⟩
theorem zbo_X8_fitsFor : zBok zmt (yX8_fitsFor, cX8_fitsFor, 3, (some .boolean)) (3, 3, tb_X8_fitsFor, cu_X8_fitsFor) := ⟨rfl, Or.inr (Or.inr (Or.inr ⟨rfl, rfl⟩)), by decide +kernel, ok_X8_fitsFor⟩
theorem zbo_X8_bestFor : zBok zmt (yX8_bestFor, cX8_bestFor, 5, (some .int)) (5, 1, tb_X8_bestFor, cu_X8_bestFor) := ⟨rfl, Or.inr (Or.inl ⟨rfl, rfl⟩), by decide +kernel, ok_X8_bestFor⟩
theorem zbo_X8_best : zBok zmt (yX8_best, cX8_best, 4, (some .int)) (4, 1, tb_X8_best, cu_X8_best) := ⟨rfl, Or.inr (Or.inl ⟨rfl, rfl⟩), by decide +kernel, ok_X8_best⟩
theorem zbo_X8_ways : zBok zmt (yX8_ways, cX8_ways, 4, (some .int)) (4, 1, tb_X8_ways, cu_X8_ways) := ⟨rfl, Or.inr (Or.inl ⟨rfl, rfl⟩), by decide +kernel, ok_X8_ways⟩
theorem zbo_X8_thrift : zBok zmt (yX8_thrift, cX8_thrift, 5, (some .int)) (5, 1, tb_X8_thrift, cu_X8_thrift) := ⟨rfl, Or.inr (Or.inl ⟨rfl, rfl⟩), by decide +kernel, ok_X8_thrift⟩
theorem zbo_X8_serveAll : zBok zmt (yX8_serveAll, cX8_serveAll, 15, none) (15, 0, tb_X8_serveAll, cu_X8_serveAll) := ⟨rfl, Or.inl ⟨rfl, rfl⟩, by decide +kernel, ok_X8_serveAll⟩
theorem zbo_X8_can : zBok zmt (yX8_can, cX8_can, 3, (some .boolean)) (3, 3, tb_X8_can, cu_X8_can) := ⟨rfl, Or.inr (Or.inr (Or.inr ⟨rfl, rfl⟩)), by decide +kernel, ok_X8_can⟩
theorem zbo_X8_serving : zBok zmt (yX8_serving, cX8_serving, 9, (some .int)) (9, 1, tb_X8_serving, cu_X8_serving) := ⟨rfl, Or.inr (Or.inl ⟨rfl, rfl⟩), by decide +kernel, ok_X8_serving⟩
theorem zbo_X8_couples : zBok zmt (yX8_couples, cX8_couples, 7, (some .int)) (7, 1, tb_X8_couples, cu_X8_couples) := ⟨rfl, Or.inr (Or.inl ⟨rfl, rfl⟩), by decide +kernel, ok_X8_couples⟩
theorem zbo_X8_parting : zBok zmt (yX8_parting, cX8_parting, 8, (some .int)) (8, 1, tb_X8_parting, cu_X8_parting) := ⟨rfl, Or.inr (Or.inl ⟨rfl, rfl⟩), by decide +kernel, ok_X8_parting⟩
theorem zbo_X8_stepsOf : zBok zmt (yX8_stepsOf, cX8_stepsOf, 7, (some .int)) (7, 1, tb_X8_stepsOf, cu_X8_stepsOf) := ⟨rfl, Or.inr (Or.inl ⟨rfl, rfl⟩), by decide +kernel, ok_X8_stepsOf⟩
theorem zbo_X8_way : zBok zmt (yX8_way, cX8_way, 6, (some .int)) (6, 1, tb_X8_way, cu_X8_way) := ⟨rfl, Or.inr (Or.inl ⟨rfl, rfl⟩), by decide +kernel, ok_X8_way⟩
theorem zbo_X8_lone : zBok zmt (yX8_lone, cX8_lone, 4, (some .int)) (4, 1, tb_X8_lone, cu_X8_lone) := ⟨rfl, Or.inr (Or.inl ⟨rfl, rfl⟩), by decide +kernel, ok_X8_lone⟩
theorem zbo_X8_findingOf : zBok zmt (yX8_findingOf, cX8_findingOf, 9, (some .int)) (9, 1, tb_X8_findingOf, cu_X8_findingOf) := ⟨rfl, Or.inr (Or.inl ⟨rfl, rfl⟩), by decide +kernel, ok_X8_findingOf⟩
theorem zbo_X8_isSo : zBok zmt (yX8_isSo, cX8_isSo, 9, (some .boolean)) (9, 3, tb_X8_isSo, cu_X8_isSo) := ⟨rfl, Or.inr (Or.inr (Or.inr ⟨rfl, rfl⟩)), by decide +kernel, ok_X8_isSo⟩
theorem zbo_X8_who : zBok zmt (yX8_who, cX8_who, 13, (some .int)) (13, 1, tb_X8_who, cu_X8_who) := ⟨rfl, Or.inr (Or.inl ⟨rfl, rfl⟩), by decide +kernel, ok_X8_who⟩
theorem zbo_X8_swaps : zBok zmt (yX8_swaps, cX8_swaps, 5, none) (5, 0, tb_X8_swaps, cu_X8_swaps) := ⟨rfl, Or.inl ⟨rfl, rfl⟩, by decide +kernel, ok_X8_swaps⟩
theorem zbo_X8_fits : zBok zmt (yX8_fits, cX8_fits, 15, (some .int)) (15, 1, tb_X8_fits, cu_X8_fits) := ⟨rfl, Or.inr (Or.inl ⟨rfl, rfl⟩), by decide +kernel, ok_X8_fits⟩
theorem zbo_X8_wrong : zBok zmt (yX8_wrong, cX8_wrong, 15, (some .long)) (15, 2, tb_X8_wrong, cu_X8_wrong) := ⟨rfl, Or.inr (Or.inr (Or.inl ⟨rfl, rfl⟩)), by decide +kernel, ok_X8_wrong⟩
theorem zbo_X8_day : zBok zmt (yX8_day, cX8_day, 6, none) (6, 0, tb_X8_day, cu_X8_day) := ⟨rfl, Or.inl ⟨rfl, rfl⟩, by decide +kernel, ok_X8_day⟩
theorem zbo_X8_drawn : zBok zmt (yX8_drawn, cX8_drawn, 8, (some .int)) (8, 1, tb_X8_drawn, cu_X8_drawn) := ⟨rfl, Or.inr (Or.inl ⟨rfl, rfl⟩), by decide +kernel, ok_X8_drawn⟩
theorem zbo_X8_image : zBok zmt (yX8_image, cX8_image, 3, (some .int)) (3, 1, tb_X8_image, cu_X8_image) := ⟨rfl, Or.inr (Or.inl ⟨rfl, rfl⟩), by decide +kernel, ok_X8_image⟩
theorem zbo_X8_restore : zBok zmt (yX8_restore, cX8_restore, 3, (some .int)) (3, 1, tb_X8_restore, cu_X8_restore) := ⟨rfl, Or.inr (Or.inl ⟨rfl, rfl⟩), by decide +kernel, ok_X8_restore⟩
theorem zbo_X8_kind : zBok zmt (yX8_kind, cX8_kind, 2, (some .int)) (2, 1, tb_X8_kind, cu_X8_kind) := ⟨rfl, Or.inr (Or.inl ⟨rfl, rfl⟩), by decide +kernel, ok_X8_kind⟩
theorem zbo_X8_as : zBok zmt (yX8_as, cX8_as, 5, (some .int)) (5, 1, tb_X8_as, cu_X8_as) := ⟨rfl, Or.inr (Or.inl ⟨rfl, rfl⟩), by decide +kernel, ok_X8_as⟩
theorem zbo_X8_leaves : zBok zmt (yX8_leaves, cX8_leaves, 2, none) (2, 0, tb_X8_leaves, cu_X8_leaves) := ⟨rfl, Or.inl ⟨rfl, rfl⟩, by decide +kernel, ok_X8_leaves⟩
theorem zbo_X8_markLow : zBok zmt (yX8_markLow, cX8_markLow, 4, (some .int)) (4, 1, tb_X8_markLow, cu_X8_markLow) := ⟨rfl, Or.inr (Or.inl ⟨rfl, rfl⟩), by decide +kernel, ok_X8_markLow⟩
theorem zbo_X8_sizeHigh : zBok zmt (yX8_sizeHigh, cX8_sizeHigh, 4, (some .int)) (4, 1, tb_X8_sizeHigh, cu_X8_sizeHigh) := ⟨rfl, Or.inr (Or.inl ⟨rfl, rfl⟩), by decide +kernel, ok_X8_sizeHigh⟩
theorem zbo_X8_ask : zBok zmt (yX8_ask, cX8_ask, 5, (some .int)) (5, 1, tb_X8_ask, cu_X8_ask) := ⟨rfl, Or.inr (Or.inl ⟨rfl, rfl⟩), by decide +kernel, ok_X8_ask⟩
theorem zbo_X8_trace : zBok zmt (yX8_trace, cX8_trace, 2, (some .int)) (2, 1, tb_X8_trace, cu_X8_trace) := ⟨rfl, Or.inr (Or.inl ⟨rfl, rfl⟩), by decide +kernel, ok_X8_trace⟩
theorem zbo_X8_count : zBok zmt (yX8_count, cX8_count, 4, (some .int)) (4, 1, tb_X8_count, cu_X8_count) := ⟨rfl, Or.inr (Or.inl ⟨rfl, rfl⟩), by decide +kernel, ok_X8_count⟩
theorem zbo_X8_status : zBok zmt (yX8_status, cX8_status, 1, (some .int)) (1, 1, tb_X8_status, cu_X8_status) := ⟨rfl, Or.inr (Or.inl ⟨rfl, rfl⟩), by decide +kernel, ok_X8_status⟩
theorem zbo_J6_lowestOneBit_0f7a4 : zBok zmt (yJ6_lowestOneBit_0f7a4, cJ6_lowestOneBit_0f7a4, 1, (some .int)) (1, 1, tb_J6_lowestOneBit_0f7a4, cu_J6_lowestOneBit_0f7a4) := ⟨rfl, Or.inr (Or.inl ⟨rfl, rfl⟩), by decide +kernel, ok_J6_lowestOneBit_0f7a4⟩
theorem zbo_J6_numberOfTrailingZeros_0f7a4 : zBok zmt (yJ6_numberOfTrailingZeros_0f7a4, cJ6_numberOfTrailingZeros_0f7a4, 2, (some .int)) (2, 1, tb_J6_numberOfTrailingZeros_0f7a4, cu2_J6_numberOfTrailingZeros_0f7a4) := ⟨rfl, Or.inr (Or.inl ⟨rfl, rfl⟩), by decide +kernel, ok_J6_numberOfTrailingZeros_0f7a4⟩
theorem zbo_J6_bitCount_0f7a4 : zBok zmt (yJ6_bitCount_0f7a4, cJ6_bitCount_0f7a4, 1, (some .int)) (1, 1, tb_J6_bitCount_0f7a4, cu2_J6_bitCount_0f7a4) := ⟨rfl, Or.inr (Or.inl ⟨rfl, rfl⟩), by decide +kernel, ok_J6_bitCount_0f7a4⟩
theorem zbo_J7_fill_d0a16 : zBok zmt (yJ7_fill_d0a16, cJ7_fill_d0a16, 5, none) (5, 0, tb_J7_fill_d0a16, cu_J7_fill_d0a16) := ⟨rfl, Or.inl ⟨rfl, rfl⟩, by decide +kernel, ok_J7_fill_d0a16⟩
theorem zbo_J7_fill_53178 : zBok zmt (yJ7_fill_53178, cJ7_fill_53178, 4, none) (4, 0, tb_J7_fill_53178, cu_J7_fill_53178) := ⟨rfl, Or.inl ⟨rfl, rfl⟩, by decide +kernel, ok_J7_fill_53178⟩
set_option maxRecDepth 100000 in
set_option maxHeartbeats 4000000 in
theorem zB_all : zall2 (zBok zmt) zMTl zBTl := ⟨fun x h => (by cases h; exact zbo_X0_keep), ⟨fun x h => (by cases h; exact zbo_X0_takeBackLatest), ⟨fun x h => (by cases h; exact zbo_X1_isAlso), ⟨fun x h => (by cases h; exact zbo_X1_above), ⟨fun x h => (by cases h; exact zbo_X1_answer), ⟨fun x h => (by cases h; exact zbo_X1_bodyFor), ⟨fun x h => (by cases h; exact zbo_X1_bodyTold), ⟨fun x h => (by cases h; exact zbo_X1_body), ⟨fun x h => (by cases h; exact zbo_X1_leave), ⟨fun x h => (by cases h; exact zbo_X2_learn), ⟨fun x h => (by cases h; exact zbo_X2_hangsByOneLess), ⟨fun x h => (by cases h; exact zbo_X2_weigh), ⟨fun x h => (by cases h; exact zbo_X2_isPiece), ⟨fun x h => (by cases h; exact zbo_X2_couldServe), ⟨fun x h => (by cases h; exact zbo_X2_countAll), ⟨fun x h => (by cases h; exact zbo_X2_countOf), ⟨fun x h => (by cases h; exact zbo_X2_isStraight), ⟨fun x h => (by cases h; exact zbo_X2_markSums), ⟨fun x h => (by cases h; exact zbo_X2_countSums), ⟨fun x h => (by cases h; exact zbo_X2_leastSumUnpaid), ⟨fun x h => (by cases h; exact zbo_X2_greatestSum), ⟨fun x h => (by cases h; exact zbo_X2_bestFor), ⟨fun x h => (by cases h; exact zbo_X2_rankOf), ⟨fun x h => (by cases h; exact zbo_X2_countFor), ⟨fun x h => (by cases h; exact zbo_X2_cheapestFor), ⟨fun x h => (by cases h; exact zbo_X2_mostServed), ⟨fun x h => (by cases h; exact zbo_X2_findSuited), ⟨fun x h => (by cases h; exact zbo_X2_suitedBy), ⟨fun x h => (by cases h; exact zbo_X2_findServable), ⟨fun x h => (by cases h; exact zbo_X2_servableBy), ⟨fun x h => (by cases h; exact zbo_X2_withOneMore), ⟨fun x h => (by cases h; exact zbo_X2_canServe), ⟨fun x h => (by cases h; exact zbo_X2_pieceAmongServed), ⟨fun x h => (by cases h; exact zbo_X2_firstPieceLeaving), ⟨fun x h => (by cases h; exact zbo_X2_countCouplings), ⟨fun x h => (by cases h; exact zbo_X2_sideOf), ⟨fun x h => (by cases h; exact zbo_X2_casesOfFewLost), ⟨fun x h => (by cases h; exact zbo_X2_addStamp), ⟨fun x h => (by cases h; exact zbo_X3_append), ⟨fun x h => (by cases h; exact zbo_X3_read), ⟨fun x h => (by cases h; exact zbo_X3_readLaw), ⟨fun x h => (by cases h; exact zbo_X3_readStamps), ⟨fun x h => (by cases h; exact zbo_X3_readCustomers), ⟨fun x h => (by cases h; exact zbo_X3_kindOfSort), ⟨fun x h => (by cases h; exact zbo_X3_takes), ⟨fun x h => (by cases h; exact zbo_X3_takeNumber), ⟨fun x h => (by cases h; exact zbo_X3_refuse), ⟨fun x h => (by cases h; exact zbo_X3_step), ⟨fun x h => (by cases h; exact zbo_X3_stepOverNumber), ⟨fun x h => (by cases h; exact zbo_X3_isFigureSign), ⟨fun x h => (by cases h; exact zbo_X4_begin), ⟨fun x h => (by cases h; exact zbo_X4_reaches), ⟨fun x h => (by cases h; exact zbo_X4_put), ⟨fun x h => (by cases h; exact zbo_X5_begin), ⟨fun x h => (by cases h; exact zbo_X5_findNext), ⟨fun x h => (by cases h; exact zbo_X5_put), ⟨fun x h => (by cases h; exact zbo_X5_add), ⟨fun x h => (by cases h; exact zbo_X5_become), ⟨fun x h => (by cases h; exact zbo_X5_sell), ⟨fun x h => (by cases h; exact zbo_X5_takeBack), ⟨fun x h => (by cases h; exact zbo_X5_lose), ⟨fun x h => (by cases h; exact zbo_X5_isOn), ⟨fun x h => (by cases h; exact zbo_X5_holds), ⟨fun x h => (by cases h; exact zbo_X5_isServed), ⟨fun x h => (by cases h; exact zbo_X5_suits), ⟨fun x h => (by cases h; exact zbo_X5_served), ⟨fun x h => (by cases h; exact zbo_X5_howIs), ⟨fun x h => (by cases h; exact zbo_X5_ownerOf), ⟨fun x h => (by cases h; exact zbo_X5_paysOf), ⟨fun x h => (by cases h; exact zbo_X5_payOfStamp), ⟨fun x h => (by cases h; exact zbo_X5_tearsOf), ⟨fun x h => (by cases h; exact zbo_X5_nextTo), ⟨fun x h => (by cases h; exact zbo_X5_partAround), ⟨fun x h => (by cases h; exact zbo_X5_countParts), ⟨fun x h => (by cases h; exact zbo_X5_partNumber), ⟨fun x h => (by cases h; exact zbo_X5_stepsBetween), ⟨fun x h => (by cases h; exact zbo_X5_firstStep), ⟨fun x h => (by cases h; exact zbo_X6_takeCells), ⟨fun x h => (by cases h; exact zbo_X6_takePays), ⟨fun x h => (by cases h; exact zbo_X6_isSo), ⟨fun x h => (by cases h; exact zbo_X7_row), ⟨fun x h => (by cases h; exact zbo_X7_set), ⟨fun x h => (by cases h; exact zbo_X7_copy), ⟨fun x h => (by cases h; exact zbo_X7_drop), ⟨fun x h => (by cases h; exact zbo_X7_feed), ⟨fun x h => (by cases h; exact zbo_X7_sheet), ⟨fun x h => (by cases h; exact zbo_X7_fault), ⟨fun x h => (by cases h; exact zbo_X7_undo), ⟨fun x h => (by cases h; exact zbo_X7_serve), ⟨fun x h => (by cases h; exact zbo_X7_bringBack), ⟨fun x h => (by cases h; exact zbo_X7_spoil), ⟨fun x h => (by cases h; exact zbo_X7_value), ⟨fun x h => (by cases h; exact zbo_X7_over), ⟨fun x h => (by cases h; exact zbo_X7_cell), ⟨fun x h => (by cases h; exact zbo_X7_customer), ⟨fun x h => (by cases h; exact zbo_X7_stand), ⟨fun x h => (by cases h; exact zbo_X7_piece), ⟨fun x h => (by cases h; exact zbo_X7_parts), ⟨fun x h => (by cases h; exact zbo_X7_pieces), ⟨fun x h => (by cases h; exact zbo_X7_sums), ⟨fun x h => (by cases h; exact zbo_X7_best), ⟨fun x h => (by cases h; exact zbo_X7_ways), ⟨fun x h => (by cases h; exact zbo_X7_thrift), ⟨fun x h => (by cases h; exact zbo_X7_serving), ⟨fun x h => (by cases h; exact zbo_X7_couples), ⟨fun x h => (by cases h; exact zbo_X7_parting), ⟨fun x h => (by cases h; exact zbo_X7_way), ⟨fun x h => (by cases h; exact zbo_X7_lone), ⟨fun x h => (by cases h; exact zbo_X7_who), ⟨fun x h => (by cases h; exact zbo_X7_fits), ⟨fun x h => (by cases h; exact zbo_X7_wrong), ⟨fun x h => (by cases h; exact zbo_X7_drawn), ⟨fun x h => (by cases h; exact zbo_X7_image), ⟨fun x h => (by cases h; exact zbo_X7_restore), ⟨fun x h => (by cases h; exact zbo_X7_kind), ⟨fun x h => (by cases h; exact zbo_X7_as), ⟨fun x h => (by cases h; exact zbo_X7_ask), ⟨fun x h => (by cases h; exact zbo_X7_trace), ⟨fun x h => (by cases h; exact zbo_X7_count), ⟨fun x h => (by cases h; exact zbo_X7_status), ⟨fun x h => (by cases h; exact zbo_X7_found), ⟨fun x h => (by cases h; exact zbo_X7_fine), ⟨fun x h => (by cases h; exact zbo_X7_isThere), ⟨fun x h => (by cases h; exact zbo_X7_isCell), ⟨fun x h => (by cases h; exact zbo_X7_areTwoCells), ⟨fun x h => (by cases h; exact zbo_X7_isCustomer), ⟨fun x h => (by cases h; exact zbo_X7_isRow), ⟨fun x h => (by cases h; exact zbo_X7_isFigure), ⟨fun x h => (by cases h; exact zbo_X7_isEither), ⟨fun x h => (by cases h; exact zbo_X7_areRowsOf), ⟨fun x h => (by cases h; exact zbo_X7_countRows), ⟨fun x h => (by cases h; exact zbo_X7_putInPlace), ⟨fun x h => (by cases h; exact zbo_X7_liveDay), ⟨fun x h => (by cases h; exact zbo_X7_restBy), ⟨fun x h => (by cases h; exact zbo_X7_powerOf), ⟨fun x h => (by cases h; exact zbo_X7_commonDivisor), ⟨fun x h => (by cases h; exact zbo_X7_takeTold), ⟨fun x h => (by cases h; exact zbo_X7_kindsThatFit), ⟨fun x h => (by cases h; exact zbo_X7_valuesThatFit), ⟨fun x h => (by cases h; exact zbo_X7_oversThatFit), ⟨fun x h => (by cases h; exact zbo_X7_countSwaps), ⟨fun x h => (by cases h; exact zbo_X7_firstSwap), ⟨fun x h => (by cases h; exact zbo_X7_fitsSwapped), ⟨fun x h => (by cases h; exact zbo_X8_in), ⟨fun x h => (by cases h; exact zbo_X8_has), ⟨fun x h => (by cases h; exact zbo_X8_ones), ⟨fun x h => (by cases h; exact zbo_X8_isRow), ⟨fun x h => (by cases h; exact zbo_X8_finds), ⟨fun x h => (by cases h; exact zbo_X8_row), ⟨fun x h => (by cases h; exact zbo_X8_set), ⟨fun x h => (by cases h; exact zbo_X8_isPlace), ⟨fun x h => (by cases h; exact zbo_X8_copy), ⟨fun x h => (by cases h; exact zbo_X8_drop), ⟨fun x h => (by cases h; exact zbo_X8_feed), ⟨fun x h => (by cases h; exact zbo_X8_byteAt), ⟨fun x h => (by cases h; exact zbo_X8_isFigure), ⟨fun x h => (by cases h; exact zbo_X8_wrongs), ⟨fun x h => (by cases h; exact zbo_X8_takes), ⟨fun x h => (by cases h; exact zbo_X8_number), ⟨fun x h => (by cases h; exact zbo_X8_kindBy), ⟨fun x h => (by cases h; exact zbo_X8_readsLaw), ⟨fun x h => (by cases h; exact zbo_X8_readsStamp), ⟨fun x h => (by cases h; exact zbo_X8_readsCustomer), ⟨fun x h => (by cases h; exact zbo_X8_reads), ⟨fun x h => (by cases h; exact zbo_X8_joins), ⟨fun x h => (by cases h; exact zbo_X8_sheet), ⟨fun x h => (by cases h; exact zbo_X8_fault), ⟨fun x h => (by cases h; exact zbo_X8_keeps), ⟨fun x h => (by cases h; exact zbo_X8_undo), ⟨fun x h => (by cases h; exact zbo_X8_isCell), ⟨fun x h => (by cases h; exact zbo_X8_isCustomer), ⟨fun x h => (by cases h; exact zbo_X8_gone), ⟨fun x h => (by cases h; exact zbo_X8_on), ⟨fun x h => (by cases h; exact zbo_X8_servedNow), ⟨fun x h => (by cases h; exact zbo_X8_reach), ⟨fun x h => (by cases h; exact zbo_X8_lowest), ⟨fun x h => (by cases h; exact zbo_X8_hangs), ⟨fun x h => (by cases h; exact zbo_X8_isPiece), ⟨fun x h => (by cases h; exact zbo_X8_pays), ⟨fun x h => (by cases h; exact zbo_X8_tears), ⟨fun x h => (by cases h; exact zbo_X8_serves), ⟨fun x h => (by cases h; exact zbo_X8_serve), ⟨fun x h => (by cases h; exact zbo_X8_bringBack), ⟨fun x h => (by cases h; exact zbo_X8_spoil), ⟨fun x h => (by cases h; exact zbo_X8_value), ⟨fun x h => (by cases h; exact zbo_X8_over), ⟨fun x h => (by cases h; exact zbo_X8_ownerOf), ⟨fun x h => (by cases h; exact zbo_X8_cell), ⟨fun x h => (by cases h; exact zbo_X8_customer), ⟨fun x h => (by cases h; exact zbo_X8_stand), ⟨fun x h => (by cases h; exact zbo_X8_partOf), ⟨fun x h => (by cases h; exact zbo_X8_manyParts), ⟨fun x h => (by cases h; exact zbo_X8_piece), ⟨fun x h => (by cases h; exact zbo_X8_parts), ⟨fun x h => (by cases h; exact zbo_X8_surveys), ⟨fun x h => (by cases h; exact zbo_X8_paysBy), ⟨fun x h => (by cases h; exact zbo_X8_isStraight), ⟨fun x h => (by cases h; exact zbo_X8_pieces), ⟨fun x h => (by cases h; exact zbo_X8_sums), ⟨fun x h => (by cases h; exact zbo_X8_fitsFor), ⟨fun x h => (by cases h; exact zbo_X8_bestFor), ⟨fun x h => (by cases h; exact zbo_X8_best), ⟨fun x h => (by cases h; exact zbo_X8_ways), ⟨fun x h => (by cases h; exact zbo_X8_thrift), ⟨fun x h => (by cases h; exact zbo_X8_serveAll), ⟨fun x h => (by cases h; exact zbo_X8_can), ⟨fun x h => (by cases h; exact zbo_X8_serving), ⟨fun x h => (by cases h; exact zbo_X8_couples), ⟨fun x h => (by cases h; exact zbo_X8_parting), ⟨fun x h => (by cases h; exact zbo_X8_stepsOf), ⟨fun x h => (by cases h; exact zbo_X8_way), ⟨fun x h => (by cases h; exact zbo_X8_lone), ⟨fun x h => (by cases h; exact zbo_X8_findingOf), ⟨fun x h => (by cases h; exact zbo_X8_isSo), ⟨fun x h => (by cases h; exact zbo_X8_who), ⟨fun x h => (by cases h; exact zbo_X8_swaps), ⟨fun x h => (by cases h; exact zbo_X8_fits), ⟨fun x h => (by cases h; exact zbo_X8_wrong), ⟨fun x h => (by cases h; exact zbo_X8_day), ⟨fun x h => (by cases h; exact zbo_X8_drawn), ⟨fun x h => (by cases h; exact zbo_X8_image), ⟨fun x h => (by cases h; exact zbo_X8_restore), ⟨fun x h => (by cases h; exact zbo_X8_kind), ⟨fun x h => (by cases h; exact zbo_X8_as), ⟨fun x h => (by cases h; exact zbo_X8_leaves), ⟨fun x h => (by cases h; exact zbo_X8_markLow), ⟨fun x h => (by cases h; exact zbo_X8_sizeHigh), ⟨fun x h => (by cases h; exact zbo_X8_ask), ⟨fun x h => (by cases h; exact zbo_X8_trace), ⟨fun x h => (by cases h; exact zbo_X8_count), ⟨fun x h => (by cases h; exact zbo_X8_status), ⟨fun x h => (by cases h; exact zbo_J6_lowestOneBit_0f7a4), ⟨fun x h => (by cases h; exact zbo_J6_numberOfTrailingZeros_0f7a4), ⟨fun x h => (by cases h; exact zbo_J6_bitCount_0f7a4), ⟨fun x h => (by cases h), ⟨fun x h => (by cases h), ⟨fun x h => (by cases h; exact zbo_J7_fill_d0a16), ⟨fun x h => (by cases h; exact zbo_J7_fill_53178), trivial⟩⟩⟩⟩⟩⟩⟩⟩⟩⟩⟩⟩⟩⟩⟩⟩⟩⟩⟩⟩⟩⟩⟩⟩⟩⟩⟩⟩⟩⟩⟩⟩⟩⟩⟩⟩⟩⟩⟩⟩⟩⟩⟩⟩⟩⟩⟩⟩⟩⟩⟩⟩⟩⟩⟩⟩⟩⟩⟩⟩⟩⟩⟩⟩⟩⟩⟩⟩⟩⟩⟩⟩⟩⟩⟩⟩⟩⟩⟩⟩⟩⟩⟩⟩⟩⟩⟩⟩⟩⟩⟩⟩⟩⟩⟩⟩⟩⟩⟩⟩⟩⟩⟩⟩⟩⟩⟩⟩⟩⟩⟩⟩⟩⟩⟩⟩⟩⟩⟩⟩⟩⟩⟩⟩⟩⟩⟩⟩⟩⟩⟩⟩⟩⟩⟩⟩⟩⟩⟩⟩⟩⟩⟩⟩⟩⟩⟩⟩⟩⟩⟩⟩⟩⟩⟩⟩⟩⟩⟩⟩⟩⟩⟩⟩⟩⟩⟩⟩⟩⟩⟩⟩⟩⟩⟩⟩⟩⟩⟩⟩⟩⟩⟩⟩⟩⟩⟩⟩⟩⟩⟩⟩⟩⟩⟩⟩⟩⟩⟩⟩⟩⟩⟩⟩⟩⟩⟩⟩⟩⟩⟩⟩⟩⟩⟩⟩⟩⟩⟩⟩⟩⟩⟩⟩⟩⟩⟩⟩⟩⟩⟩⟩⟩⟩⟩⟩⟩⟩
theorem zB_ok : ∀ (y : Nat) (q : ZT), zmt y = some q → ∀ b, zbt y = some b → zBok zmt q b := fun y q h b h2 => zall2_at zB_all y q b h (by
  unfold zbt at h2
  cases h3 : zBTl[y]? with
  | none => rw [h3] at h2; cases h2
  | some z => rw [h3] at h2; cases z with
    | none => cases h2
    | some w => rw [show w = b from Option.some.inj h2])

def mX8_count : qm_MI := (yX8_count, cX8_count, 2, some .int, 7, 1)
def mX8_feed : qm_MI := (yX8_feed, cX8_feed, 7, some .int, 7, 6)
def mX8_isByte : qm_MI := (yX8_isByte, cX8_isByte, 1, some .boolean, 7, 1)
def mX8_text : qm_MI := (yX8_text, cX8_text, 2, some .int, 7, 0)
def mX8_force : qm_MI := (yX8_force, cX8_force, 3, some .int, 7, 1)
def mX8_asks : qm_MI := (yX8_asks, cX8_asks, 5, some .int, 7, 4)
def mX8_isColour : qm_MI := (yX8_isColour, cX8_isColour, 1, some .boolean, 7, 1)
def mX8_lot : qm_MI := (yX8_lot, cX8_lot, 4, some .int, 7, 3)
def mX8_told : qm_MI := (yX8_told, cX8_told, 3, some .int, 7, 2)
def mX8_build : qm_MI := (yX8_build, cX8_build, 2, some .int, 7, 1)
def mX8_would : qm_MI := (yX8_would, cX8_would, 2, some .int, 7, 1)
def mX8_pull : qm_MI := (yX8_pull, cX8_pull, 3, some .int, 7, 1)
def mX8_paint : qm_MI := (yX8_paint, cX8_paint, 4, some .int, 7, 2)
def mX8_lane : qm_MI := (yX8_lane, cX8_lane, 4, some .int, 7, 2)
def mX8_refusalOfLane : qm_MI := (yX8_refusalOfLane, cX8_refusalOfLane, 3, some .int, 7, 2)
def mX8_close : qm_MI := (yX8_close, cX8_close, 3, some .int, 7, 2)
def mX8_idle : qm_MI := (yX8_idle, cX8_idle, 8, some .int, 7, 1)
def mX8_movesInThought : qm_MI := (yX8_movesInThought, cX8_movesInThought, 4, some .int, 7, 3)
def mX8_order : qm_MI := (yX8_order, cX8_order, 3, some .int, 7, 2)
def mX8_fewest : qm_MI := (yX8_fewest, cX8_fewest, 1, some .int, 7, 0)
def mX8_paints : qm_MI := (yX8_paints, cX8_paints, 4, some .int, 7, 2)
def mX8_refusalOfOrder : qm_MI := (yX8_refusalOfOrder, cX8_refusalOfOrder, 3, some .int, 7, 2)
def mX8_raise : qm_MI := (yX8_raise, cX8_raise, 3, some .int, 7, 1)
def mX8_when : qm_MI := (yX8_when, cX8_when, 10, some .int, 7, 3)
def mX8_rule : qm_MI := (yX8_rule, cX8_rule, 3, some .int, 7, 2)
def mX8_ahead : qm_MI := (yX8_ahead, cX8_ahead, 4, some .int, 7, 2)
def mX8_worthInOrder : qm_MI := (yX8_worthInOrder, cX8_worthInOrder, 3, some .int, 7, 1)
def mX8_built : qm_MI := (yX8_built, cX8_built, 3, some .int, 7, 1)
def mX8_blame : qm_MI := (yX8_blame, cX8_blame, 3, some .int, 7, 0)
def mX8_judge : qm_MI := (yX8_judge, cX8_judge, 3, some .int, 7, 1)
def mX8_refusalOfMap : qm_MI := (yX8_refusalOfMap, cX8_refusalOfMap, 2, some .int, 7, 1)
def mX8_firstOtherwise : qm_MI := (yX8_firstOtherwise, cX8_firstOtherwise, 4, some .int, 7, 2)
def mX8_plans : qm_MI := (yX8_plans, cX8_plans, 5, some .int, 7, 2)
def mX8_film : qm_MI := (yX8_film, cX8_film, 3, some .int, 7, 1)
def mX8_laws : qm_MI := (yX8_laws, cX8_laws, 7, some .int, 7, 3)
def mX8_drawn : qm_MI := (yX8_drawn, cX8_drawn, 2, some .int, 7, 1)
def mX8_isSeed : qm_MI := (yX8_isSeed, cX8_isSeed, 1, some .boolean, 7, 1)
def mX8_coloursDrawn : qm_MI := (yX8_coloursDrawn, cX8_coloursDrawn, 5, some .int, 7, 1)
def mX8_odds : qm_MI := (yX8_odds, cX8_odds, 7, some .long, 7, 4)
def mX8_commonDivisor : qm_MI := (yX8_commonDivisor, cX8_commonDivisor, 3, some .int, 7, 2)
def mX8_image : qm_MI := (yX8_image, cX8_image, 1, some .int, 7, 0)
def mX8_back : qm_MI := (yX8_back, cX8_back, 1, some .int, 7, 0)
def mX8_sheet : qm_MI := (yX8_sheet, cX8_sheet, 4, some .int, 7, 3)
def mX8_cell : qm_MI := (yX8_cell, cX8_cell, 4, some .int, 7, 3)
def mX8_copy : qm_MI := (yX8_copy, cX8_copy, 6, some .int, 7, 5)
def mX8_lotsBy : qm_MI := (yX8_lotsBy, cX8_lotsBy, 9, some .int, 7, 4)
def mX8_taken : qm_MI := (yX8_taken, cX8_taken, 5, some .int, 7, 2)
def mX9_in : qm_MI := (yX9_in, cX9_in, 3, some .boolean, 8, 3)
def mX9_within : qm_MI := (yX9_within, cX9_within, 3, some .int, 8, 3)
def mX9_isLot : qm_MI := (yX9_isLot, cX9_isLot, 2, some .boolean, 8, 1)
def mX9_areTwo : qm_MI := (yX9_areTwo, cX9_areTwo, 3, some .boolean, 8, 2)
def mX9_areBeside : qm_MI := (yX9_areBeside, cX9_areBeside, 3, some .boolean, 8, 2)
def mX9_isBuilt : qm_MI := (yX9_isBuilt, cX9_isBuilt, 2, some .boolean, 8, 1)
def mX9_ones : qm_MI := (yX9_ones, cX9_ones, 3, some .int, 8, 1)
def mX9_builtSet : qm_MI := (yX9_builtSet, cX9_builtSet, 3, some .int, 8, 0)
def mX9_all : qm_MI := (yX9_all, cX9_all, 1, some .int, 8, 0)
def mX9_howMany : qm_MI := (yX9_howMany, cX9_howMany, 3, some .int, 8, 0)
def mX9_pairs : qm_MI := (yX9_pairs, cX9_pairs, 3, some .int, 8, 0)
def mX9_count : qm_MI := (yX9_count, cX9_count, 2, some .int, 8, 1)
def mX9_isByte : qm_MI := (yX9_isByte, cX9_isByte, 1, some .boolean, 8, 1)
def mX9_feed : qm_MI := (yX9_feed, cX9_feed, 8, some .int, 8, 6)
def mX9_wordFrom : qm_MI := (yX9_wordFrom, cX9_wordFrom, 6, some .int, 8, 2)
def mX9_next : qm_MI := (yX9_next, cX9_next, 3, none, 8, 0)
def mX9_rank : qm_MI := (yX9_rank, cX9_rank, 1, some .int, 8, 1)
def mX9_puts : qm_MI := (yX9_puts, cX9_puts, 2, none, 8, 1)
def mX9_unwinds : qm_MI := (yX9_unwinds, cX9_unwinds, 3, none, 8, 1)
def mX9_holds : qm_MI := (yX9_holds, cX9_holds, 2, none, 8, 1)
def mX9_opensOne : qm_MI := (yX9_opensOne, cX9_opensOne, 2, some .boolean, 8, 1)
def mX9_between : qm_MI := (yX9_between, cX9_between, 2, some .boolean, 8, 1)
def mX9_signOf : qm_MI := (yX9_signOf, cX9_signOf, 1, some .int, 8, 0)
def mX9_eRead : qm_MI := (yX9_eRead, cX9_eRead, 4, some .boolean, 8, 0)
def mX9_text : qm_MI := (yX9_text, cX9_text, 3, some .int, 8, 0)
def mX9_two : qm_MI := (yX9_two, cX9_two, 3, some .int, 8, 3)
def mX9_says : qm_MI := (yX9_says, cX9_says, 5, some .int, 8, 1)
def mX9_force : qm_MI := (yX9_force, cX9_force, 3, some .int, 8, 1)
def mX9_asksOf : qm_MI := (yX9_asksOf, cX9_asksOf, 6, some .int, 8, 4)
def mX9_asks : qm_MI := (yX9_asks, cX9_asks, 5, some .int, 8, 4)
def mX9_lot : qm_MI := (yX9_lot, cX9_lot, 5, some .int, 8, 3)
def mX9_told : qm_MI := (yX9_told, cX9_told, 3, some .int, 8, 2)
def mX9_takenBeside : qm_MI := (yX9_takenBeside, cX9_takenBeside, 4, some .int, 8, 1)
def mX9_least : qm_MI := (yX9_least, cX9_least, 2, some .int, 8, 1)
def mX9_greatest : qm_MI := (yX9_greatest, cX9_greatest, 2, some .int, 8, 1)
def mX9_wouldTake : qm_MI := (yX9_wouldTake, cX9_wouldTake, 4, some .int, 8, 1)
def mX9_builds : qm_MI := (yX9_builds, cX9_builds, 3, none, 8, 2)
def mX9_build : qm_MI := (yX9_build, cX9_build, 2, some .int, 8, 1)
def mX9_would : qm_MI := (yX9_would, cX9_would, 2, some .int, 8, 1)
def mX9_pull : qm_MI := (yX9_pull, cX9_pull, 3, some .int, 8, 1)
def mX9_paint : qm_MI := (yX9_paint, cX9_paint, 4, some .int, 8, 2)
def mX9_keeps : qm_MI := (yX9_keeps, cX9_keeps, 2, none, 8, 0)
def mX9_laysBack : qm_MI := (yX9_laysBack, cX9_laysBack, 2, none, 8, 0)
def mX9_younger : qm_MI := (yX9_younger, cX9_younger, 3, some .int, 8, 2)
def mX9_movesOf : qm_MI := (yX9_movesOf, cX9_movesOf, 4, some .int, 8, 2)
def mX9_nextMoves : qm_MI := (yX9_nextMoves, cX9_nextMoves, 4, some .int, 8, 1)
def mX9_lanes : qm_MI := (yX9_lanes, cX9_lanes, 5, some .int, 8, 2)
def mX9_lane : qm_MI := (yX9_lane, cX9_lane, 3, some .int, 8, 2)
def mX9_close : qm_MI := (yX9_close, cX9_close, 4, some .int, 8, 2)
def mX9_lanesThought : qm_MI := (yX9_lanesThought, cX9_lanesThought, 4, some .int, 8, 2)
def mX9_idle : qm_MI := (yX9_idle, cX9_idle, 8, some .int, 8, 1)
def mX9_begins : qm_MI := (yX9_begins, cX9_begins, 3, none, 8, 1)
def mX9_nextRow : qm_MI := (yX9_nextRow, cX9_nextRow, 5, some .boolean, 8, 0)
def mX9_swapsRow : qm_MI := (yX9_swapsRow, cX9_swapsRow, 4, none, 8, 2)
def mX9_rowDigits : qm_MI := (yX9_rowDigits, cX9_rowDigits, 3, some .int, 8, 0)
def mX9_buildsRow : qm_MI := (yX9_buildsRow, cX9_buildsRow, 3, none, 8, 1)
def mX9_manyByRow : qm_MI := (yX9_manyByRow, cX9_manyByRow, 2, some .int, 8, 0)
def mX9_notBuilt : qm_MI := (yX9_notBuilt, cX9_notBuilt, 1, some .int, 8, 0)
def mX9_order : qm_MI := (yX9_order, cX9_order, 8, some .int, 8, 2)
def mX9_canPaint : qm_MI := (yX9_canPaint, cX9_canPaint, 6, some .boolean, 8, 2)
def mX9_fewest : qm_MI := (yX9_fewest, cX9_fewest, 2, some .int, 8, 0)
def mX9_readsRow : qm_MI := (yX9_readsRow, cX9_readsRow, 6, some .int, 8, 2)
def mX9_paints : qm_MI := (yX9_paints, cX9_paints, 5, some .int, 8, 2)
def mX9_raise : qm_MI := (yX9_raise, cX9_raise, 3, some .int, 8, 1)
def mX9_worthBehind : qm_MI := (yX9_worthBehind, cX9_worthBehind, 4, some .int, 8, 2)
def mX9_when : qm_MI := (yX9_when, cX9_when, 9, some .int, 8, 3)
def mX9_sortsRow : qm_MI := (yX9_sortsRow, cX9_sortsRow, 6, none, 8, 1)
def mX9_rule : qm_MI := (yX9_rule, cX9_rule, 3, some .int, 8, 2)
def mX9_placeOf : qm_MI := (yX9_placeOf, cX9_placeOf, 3, some .int, 8, 1)
def mX9_worthInRow : qm_MI := (yX9_worthInRow, cX9_worthInRow, 4, some .int, 8, 1)
def mX9_ahead : qm_MI := (yX9_ahead, cX9_ahead, 4, some .int, 8, 2)
def mX9_fitsRow : qm_MI := (yX9_fitsRow, cX9_fitsRow, 4, some .boolean, 8, 1)
def mX9_fittingRows : qm_MI := (yX9_fittingRows, cX9_fittingRows, 4, some .int, 8, 1)
def mX9_built : qm_MI := (yX9_built, cX9_built, 3, some .int, 8, 1)
def mX9_blame : qm_MI := (yX9_blame, cX9_blame, 4, some .int, 8, 0)
def mX9_sheetWrong : qm_MI := (yX9_sheetWrong, cX9_sheetWrong, 2, some .int, 8, 1)
def mX9_unlike : qm_MI := (yX9_unlike, cX9_unlike, 3, some .int, 8, 1)
def mX9_judge : qm_MI := (yX9_judge, cX9_judge, 3, some .int, 8, 1)
def mX9_isSoByRow : qm_MI := (yX9_isSoByRow, cX9_isSoByRow, 3, some .boolean, 8, 1)
def mX9_plans : qm_MI := (yX9_plans, cX9_plans, 7, some .int, 8, 2)
def mX9_film : qm_MI := (yX9_film, cX9_film, 3, some .int, 8, 1)
def mX9_laws : qm_MI := (yX9_laws, cX9_laws, 7, some .int, 8, 3)
def mX9_manyBy : qm_MI := (yX9_manyBy, cX9_manyBy, 5, some .int, 8, 1)
def mX9_drawn : qm_MI := (yX9_drawn, cX9_drawn, 2, some .int, 8, 1)
def mX9_lowest : qm_MI := (yX9_lowest, cX9_lowest, 11, some .long, 8, 3)
def mX9_odds : qm_MI := (yX9_odds, cX9_odds, 8, some .long, 8, 4)
def mX9_image : qm_MI := (yX9_image, cX9_image, 2, some .int, 8, 0)
def mX9_back : qm_MI := (yX9_back, cX9_back, 2, some .int, 8, 0)
def mX9_sheet : qm_MI := (yX9_sheet, cX9_sheet, 5, some .int, 8, 3)
def mX9_cell : qm_MI := (yX9_cell, cX9_cell, 4, some .int, 8, 3)
def mX9_copy : qm_MI := (yX9_copy, cX9_copy, 10, some .int, 8, 5)
def mX9_lotsBy : qm_MI := (yX9_lotsBy, cX9_lotsBy, 9, some .int, 8, 4)
def mX9_isUnder : qm_MI := (yX9_isUnder, cX9_isUnder, 2, some .boolean, 8, 2)
def mX9_taken : qm_MI := (yX9_taken, cX9_taken, 4, some .int, 8, 2)
def mX0_countOrders : qm_MI := (yX0_countOrders, cX0_countOrders, 9, some .int, 0, 5)
def mX0_firstOrder : qm_MI := (yX0_firstOrder, cX0_firstOrder, 5, some .int, 0, 0)
def mX0_fewestColours : qm_MI := (yX0_fewestColours, cX0_fewestColours, 5, some .int, 0, 1)
def mX0_noneBeside : qm_MI := (yX0_noneBeside, cX0_noneBeside, 3, some .boolean, 0, 2)
def mX1_openLane : qm_MI := (yX1_openLane, cX1_openLane, 6, some .int, 9, 4)
def mX1_moverBeside : qm_MI := (yX1_moverBeside, cX1_moverBeside, 5, some .int, 9, 3)
def mX1_moverOf : qm_MI := (yX1_moverOf, cX1_moverOf, 5, some .int, 9, 4)
def mX2_becomesSheet : qm_MI := (yX2_becomesSheet, cX2_becomesSheet, 7, some .boolean, 1, 3)
def mX2_append : qm_MI := (yX2_append, cX2_append, 2, none, 1, 1)
def mX2_becomesRule : qm_MI := (yX2_becomesRule, cX2_becomesRule, 7, none, 1, 2)
def mX2_leastRanked : qm_MI := (yX2_leastRanked, cX2_leastRanked, 7, some .int, 1, 3)
def mX2_placeOf : qm_MI := (yX2_placeOf, cX2_placeOf, 3, some .int, 1, 1)
def mX2_swap : qm_MI := (yX2_swap, cX2_swap, 5, none, 1, 2)
def mX2_digits : qm_MI := (yX2_digits, cX2_digits, 3, some .int, 1, 0)
def mX3_read : qm_MI := (yX3_read, cX3_read, 4, some .int, 2, 2)
def mX3_fail : qm_MI := (yX3_fail, cX3_fail, 1, none, 2, 0)
def mX3_expect : qm_MI := (yX3_expect, cX3_expect, 2, none, 2, 1)
def mX3_readOr : qm_MI := (yX3_readOr, cX3_readOr, 3, none, 2, 1)
def mX3_readAnd : qm_MI := (yX3_readAnd, cX3_readAnd, 3, none, 2, 1)
def mX3_readNot : qm_MI := (yX3_readNot, cX3_readNot, 3, none, 2, 1)
def mX3_readSum : qm_MI := (yX3_readSum, cX3_readSum, 4, none, 2, 1)
def mX3_readTerm : qm_MI := (yX3_readTerm, cX3_readTerm, 3, none, 2, 1)
def mX3_readOne : qm_MI := (yX3_readOne, cX3_readOne, 2, none, 2, 1)
def mX3_mayOpen : qm_MI := (yX3_mayOpen, cX3_mayOpen, 2, some .boolean, 2, 1)
def mX3_addStep : qm_MI := (yX3_addStep, cX3_addStep, 2, none, 2, 1)
def mX3_next : qm_MI := (yX3_next, cX3_next, 1, none, 2, 0)
def mX3_readWord : qm_MI := (yX3_readWord, cX3_readWord, 2, none, 2, 0)
def mX3_readNumber : qm_MI := (yX3_readNumber, cX3_readNumber, 1, none, 2, 0)
def mX3_standsAtPlace : qm_MI := (yX3_standsAtPlace, cX3_standsAtPlace, 3, some .boolean, 2, 1)
def mX3_word : qm_MI := (yX3_word, cX3_word, 1, some (.object "java/lang/String"), 2, 1)
def mX3_isLetter : qm_MI := (yX3_isLetter, cX3_isLetter, 1, some .boolean, 2, 1)
def mX3_isDigit : qm_MI := (yX3_isDigit, cX3_isDigit, 1, some .boolean, 2, 1)
def mX3_isSign : qm_MI := (yX3_isSign, cX3_isSign, 1, some .boolean, 2, 1)
def mX3_isUnary : qm_MI := (yX3_isUnary, cX3_isUnary, 1, some .boolean, 2, 1)
def mX4_run : qm_MI := (yX4_run, cX4_run, 3, none, 3, 2)
def mX4_tryAll : qm_MI := (yX4_tryAll, cX4_tryAll, 8, none, 3, 6)
def mX4_canBeBetter : qm_MI := (yX4_canBeBetter, cX4_canBeBetter, 4, some .boolean, 3, 2)
def mX5_isSheet : qm_MI := (yX5_isSheet, cX5_isSheet, 1, some .boolean, 4, 1)
def mX5_isMissing : qm_MI := (yX5_isMissing, cX5_isMissing, 2, some .boolean, 4, 1)
def mX5_hasCell : qm_MI := (yX5_hasCell, cX5_hasCell, 3, some .boolean, 4, 2)
def mX5_hasRange : qm_MI := (yX5_hasRange, cX5_hasRange, 4, some .boolean, 4, 3)
def mX5_cellAt : qm_MI := (yX5_cellAt, cX5_cellAt, 3, some .int, 4, 2)
def mX5_makeRow : qm_MI := (yX5_makeRow, cX5_makeRow, 4, none, 4, 3)
def mX5_putCell : qm_MI := (yX5_putCell, cX5_putCell, 4, none, 4, 3)
def mX6_addByte : qm_MI := (yX6_addByte, cX6_addByte, 2, none, 5, 1)
def mX6_readTape : qm_MI := (yX6_readTape, cX6_readTape, 2, some .int, 5, 0)
def mX6_says : qm_MI := (yX6_says, cX6_says, 7, some .int, 5, 5)
def mX6_valueOf : qm_MI := (yX6_valueOf, cX6_valueOf, 7, some .int, 5, 3)
def mX6_unary : qm_MI := (yX6_unary, cX6_unary, 2, some .int, 5, 2)
def mX6_binary : qm_MI := (yX6_binary, cX6_binary, 3, some .int, 5, 3)
def mX7_becomes : qm_MI := (yX7_becomes, cX7_becomes, 2, none, 6, 1)
def mX7_hasLot : qm_MI := (yX7_hasLot, cX7_hasLot, 2, some .boolean, 6, 1)
def mX7_hasTwoLots : qm_MI := (yX7_hasTwoLots, cX7_hasTwoLots, 3, some .boolean, 6, 2)
def mX7_isBuilt : qm_MI := (yX7_isBuilt, cX7_isBuilt, 2, some .boolean, 6, 1)
def mX7_areBeside : qm_MI := (yX7_areBeside, cX7_areBeside, 3, some .boolean, 6, 2)
def mX7_colourOf : qm_MI := (yX7_colourOf, cX7_colourOf, 2, some .int, 6, 1)
def mX7_unbuiltBits : qm_MI := (yX7_unbuiltBits, cX7_unbuiltBits, 1, some .int, 6, 0)
def mX7_unbuiltLot : qm_MI := (yX7_unbuiltLot, cX7_unbuiltLot, 4, some .int, 6, 1)
def mX7_colourBits : qm_MI := (yX7_colourBits, cX7_colourBits, 3, some .int, 6, 0)
def mX7_howManyColours : qm_MI := (yX7_howManyColours, cX7_howManyColours, 1, some .int, 6, 0)
def mX7_pairsBeside : qm_MI := (yX7_pairsBeside, cX7_pairsBeside, 3, some .int, 6, 0)
def mX7_fitsLot : qm_MI := (yX7_fitsLot, cX7_fitsLot, 4, some .boolean, 6, 3)
def mX7_addLot : qm_MI := (yX7_addLot, cX7_addLot, 6, some .int, 6, 3)
def mX7_join : qm_MI := (yX7_join, cX7_join, 3, none, 6, 2)
def mX7_part : qm_MI := (yX7_part, cX7_part, 3, none, 6, 2)
def mX7_wouldTake : qm_MI := (yX7_wouldTake, cX7_wouldTake, 2, some .int, 6, 1)
def mX7_colourAmong : qm_MI := (yX7_colourAmong, cX7_colourAmong, 7, some .int, 6, 3)
def mX7_colourByKind : qm_MI := (yX7_colourByKind, cX7_colourByKind, 3, some .int, 6, 3)
def mX7_least : qm_MI := (yX7_least, cX7_least, 1, some .int, 6, 1)
def mX7_aboveGreatest : qm_MI := (yX7_aboveGreatest, cX7_aboveGreatest, 1, some .int, 6, 1)
def mX7_isOfKind : qm_MI := (yX7_isOfKind, cX7_isOfKind, 2, some .boolean, 6, 2)
def mX7_buildHouse : qm_MI := (yX7_buildHouse, cX7_buildHouse, 3, some .int, 6, 1)
def mX7_putHouse : qm_MI := (yX7_putHouse, cX7_putHouse, 3, none, 6, 2)
def mX7_clearLot : qm_MI := (yX7_clearLot, cX7_clearLot, 2, none, 6, 1)
def mX7_buildFirst : qm_MI := (yX7_buildFirst, cX7_buildFirst, 4, none, 6, 2)
def mJ6_bitCount_0f7a4 : qm_MI := (yJ6_bitCount_0f7a4, cJ6_bitCount_0f7a4, 1, some .int, 10, 1)
def mJ6_numberOfLeadingZeros_0f7a4 : qm_MI := (yJ6_numberOfLeadingZeros_0f7a4, cJ6_numberOfLeadingZeros_0f7a4, 2, some .int, 10, 1)
def mJ6_numberOfTrailingZeros_0f7a4 : qm_MI := (yJ6_numberOfTrailingZeros_0f7a4, cJ6_numberOfTrailingZeros_0f7a4, 2, some .int, 10, 1)
def mJ7_fill_53178 : qm_MI := (yJ7_fill_53178, cJ7_fill_53178, 4, none, 11, 2)
def qm_cnm : Nat → String := fun k => match k with
  | 0 => RX0
  | 1 => RX2
  | 2 => RX3
  | 3 => RX4
  | 4 => RX5
  | 5 => RX6
  | 6 => RX7
  | 7 => RX8
  | 8 => RX9
  | 9 => RX1
  | 10 => RJ6
  | _ => RJ7
def qm_pl0 : List (Nat × qm_PE) := [(11, .inl (0, 0, 2)), (15, .inl (0, 1, 2)), (18, .inl (0, 2, 0)), (22, .inl (6, 0, 0)), (27, .inr (.inl (false, mX7_colourAmong))), (31, .inr (.inl (true, mJ6_numberOfTrailingZeros_0f7a4))), (37, .inr (.inl (true, mJ7_fill_53178))), (43, .inr (.inl (true, mX0_noneBeside))), (47, .inr (.inr (.inr (.inr 0)))), (53, .inl (6, 6, 2))]
def qm_pl1 : List (Nat × qm_PE) := [(9, .inl (1, 0, 2)), (15, .inl (1, 1, 0)), (19, .inl (4, 1, 2)), (24, .inr (.inl (true, mJ6_bitCount_0f7a4))), (30, .inr (.inl (false, mX5_cellAt))), (34, .inr (.inl (false, mX2_append))), (38, .inr (.inl (false, mX7_unbuiltBits))), (44, .inr (.inl (true, mX2_leastRanked))), (48, .inr (.inl (true, mJ6_numberOfTrailingZeros_0f7a4))), (51, .inr (.inr (.inl (2147483647)))), (52, .inl (6, 6, 2)), (55, .inr (.inl (false, mX2_placeOf)))]
def qm_pl2 : List (Nat × qm_PE) := [(9, .inl (2, 0, 2)), (15, .inl (2, 1, 2)), (18, .inl (2, 2, 2)), (21, .inr (.inr (.inr (.inr 2)))), (27, .inl (2, 3, 0)), (31, .inl (2, 4, 0)), (34, .inl (2, 5, 0)), (37, .inl (2, 9, 0)), (40, .inr (.inl (false, mX3_next))), (43, .inr (.inl (false, mX3_expect))), (47, .inr (.inl (false, mX3_readOr))), (50, .inl (2, 7, 0)), (53, .inr (.inl (false, mX3_fail))), (56, .inl (2, 6, 0)), (59, .inr (.inl (false, mX3_readAnd))), (62, .inr (.inl (false, mX3_addStep))), (65, .inr (.inl (false, mX3_readNot))), (68, .inr (.inl (false, mX3_mayOpen))), (72, .inr (.inl (false, mX3_readSum))), (75, .inr (.inl (false, mX3_readTerm))), (78, .inr (.inl (false, mX3_readOne))), (81, .inl (2, 8, 0)), (84, .inr (.inl (true, mX3_isLetter))), (87, .inr (.inl (false, mX3_readWord))), (90, .inr (.inl (true, mX3_isDigit))), (93, .inr (.inl (false, mX3_readNumber))), (96, .inr (.inl (true, mX3_isSign))), (99, .inr (.inl (true, mX3_word))), (103, .inr (.inl (false, mX3_standsAtPlace))), (107, .inr (.inr (.inr (.inr 3)))), (113, .inr (.inr (.inr (.inr 4)))), (117, .inr (.inr (.inr (.inr 11)))), (119, .inr (.inr (.inr (.inr 12)))), (121, .inr (.inr (.inr (.inr 13)))), (123, .inr (.inr (.inr (.inr 14)))), (125, .inr (.inr (.inr (.inr 15)))), (127, .inr (.inr (.inr (.inr 16)))), (129, .inr (.inr (.inr (.inr 17)))), (131, .inr (.inr (.inr (.inr 18)))), (133, .inr (.inr (.inr (.inr 19)))), (135, .inr (.inr (.inr (.inr 20)))), (137, .inr (.inr (.inr (.inr 21)))), (139, .inr (.inr (.inr (.inr 22))))]
def qm_pl3 : List (Nat × qm_PE) := [(9, .inl (3, 0, 1)), (17, .inr (.inr (.inl (2147483647)))), (18, .inl (3, 1, 0)), (22, .inl (3, 2, 0)), (25, .inr (.inl (false, mX7_unbuiltBits))), (31, .inr (.inl (false, mX7_colourBits))), (34, .inr (.inl (true, mX4_tryAll))), (38, .inr (.inl (false, mX4_canBeBetter))), (42, .inr (.inl (true, mJ6_bitCount_0f7a4))), (46, .inl (6, 0, 0)), (49, .inr (.inl (false, mX7_buildHouse))), (52, .inr (.inl (false, mX7_clearLot)))]
def qm_pl4 : List (Nat × qm_PE) := [(11, .inl (4, 0, 2)), (16, .inl (4, 1, 2)), (20, .inl (4, 2, 2)), (23, .inr (.inl (true, mJ7_fill_53178))), (29, .inr (.inl (false, mX5_hasCell)))]
def qm_pl5 : List (Nat × qm_PE) := [(9, .inl (5, 2, 2)), (18, .inl (5, 3, 2)), (24, .inl (5, 4, 2)), (27, .inl (5, 5, 2)), (30, .inl (5, 6, 2)), (33, .inl (5, 7, 2)), (36, .inr (.inr (.inr (.inr 10)))), (38, .inr (.inr (.inr (.inr 3)))), (44, .inr (.inr (.inr (.inr 4)))), (48, .inr (.inl (false, mX6_addByte))), (52, .inr (.inl (false, mX6_readTape))), (55, .inl (5, 1, 0)), (59, .inr (.inl (false, mX3_read))), (63, .inl (5, 0, 0)), (66, .inl (2, 0, 2)), (69, .inr (.inr (.inr (.inr 2)))), (75, .inl (2, 1, 2)), (77, .inl (6, 1, 0)), (82, .inr (.inl (false, mX7_hasLot))), (86, .inl (6, 6, 2)), (89, .inr (.inl (true, mJ6_bitCount_0f7a4))), (95, .inl (6, 5, 2)), (98, .inl (6, 0, 0)), (101, .inr (.inl (false, mX6_valueOf))), (105, .inr (.inr (.inr (.inr 0)))), (111, .inr (.inr (.inr (.inr 1)))), (114, .inr (.inl (true, mX3_isUnary))), (117, .inr (.inl (true, mX6_unary))), (120, .inr (.inl (true, mX6_binary)))]
def qm_pl6 : List (Nat × qm_PE) := [(9, .inl (6, 4, 2)), (15, .inl (6, 5, 2)), (18, .inl (6, 6, 2)), (21, .inl (6, 7, 2)), (24, .inl (6, 8, 2)), (27, .inl (6, 0, 0)), (31, .inl (6, 1, 0)), (34, .inl (6, 2, 0)), (37, .inl (6, 3, 0)), (40, .inr (.inr (.inr (.inr 2)))), (46, .inr (.inl (false, mX7_hasLot))), (50, .inr (.inl (false, mX7_isBuilt))), (53, .inr (.inl (false, mX7_colourBits))), (57, .inr (.inl (true, mJ6_bitCount_0f7a4))), (63, .inr (.inl (false, mX7_join))), (67, .inr (.inl (false, mX7_colourAmong))), (71, .inr (.inl (true, mX7_colourByKind))), (75, .inr (.inl (true, mX7_least))), (78, .inr (.inl (true, mX7_aboveGreatest))), (81, .inr (.inl (true, mJ6_numberOfTrailingZeros_0f7a4))), (84, .inr (.inr (.inr (.inr 0)))), (90, .inr (.inl (true, mJ6_numberOfLeadingZeros_0f7a4))), (93, .inr (.inl (false, mX7_wouldTake))), (96, .inr (.inl (false, mX7_putHouse))), (99, .inl (1, 1, 0)), (104, .inl (1, 0, 2)), (106, .inr (.inl (false, mX7_buildHouse)))]
def qm_pl7 : List (Nat × qm_PE) := [(10, .inl (7, 0, 2)), (16, .inl (7, 1, 2)), (19, .inl (7, 2, 2)), (22, .inl (7, 3, 1)), (29, .inl (7, 4, 2)), (36, .inl (7, 5, 2)), (43, .inl (7, 6, 2)), (50, .inl (7, 7, 2)), (57, .inl (7, 8, 2)), (61, .inl (6, 0, 0)), (65, .inl (6, 3, 0)), (68, .inr (.inl (false, mX7_howManyColours))), (72, .inr (.inl (false, mX7_pairsBeside))), (75, .inl (5, 0, 0)), (78, .inl (6, 1, 0)), (81, .inl (5, 1, 0)), (84, .inr (.inl (true, mX8_isByte))), (88, .inr (.inl (false, mX6_addByte))), (92, .inr (.inl (false, mX6_readTape))), (95, .inr (.inl (false, mX7_hasLot))), (98, .inr (.inl (true, mX8_isColour))), (101, .inr (.inl (false, mX6_says))), (105, .inr (.inl (false, mX7_fitsLot))), (109, .inr (.inl (false, mX7_addLot))), (113, .inl (6, 4, 2)), (117, .inl (6, 5, 2)), (120, .inl (6, 6, 2)), (123, .inr (.inl (false, mX7_colourOf))), (127, .inr (.inl (false, mX7_isBuilt))), (130, .inl (6, 8, 2)), (133, .inr (.inl (false, mX7_buildHouse))), (136, .inr (.inl (false, mX7_wouldTake))), (139, .inr (.inl (false, mX7_clearLot))), (142, .inl (6, 7, 2)), (145, .inr (.inl (false, mX7_putHouse))), (149, .inr (.inl (false, mX8_refusalOfLane))), (153, .inr (.inl (true, mX1_openLane))), (159, .inr (.inl (false, mX7_hasTwoLots))), (163, .inr (.inl (false, mX7_areBeside))), (166, .inr (.inl (false, mX7_part))), (169, .inr (.inl (false, mX8_movesInThought))), (172, .inr (.inl (false, mX7_becomes))), (176, .inr (.inl (false, mX4_run))), (180, .inl (3, 1, 0)), (183, .inl (3, 2, 0)), (186, .inr (.inl (false, mX0_fewestColours))), (190, .inr (.inl (false, mX7_unbuiltBits))), (193, .inr (.inl (false, mX8_refusalOfOrder))), (196, .inl (1, 1, 0)), (197, .inr (.inl (false, mX7_buildFirst))), (201, .inr (.inl (true, mX5_isSheet))), (204, .inr (.inl (false, mX5_isMissing))), (207, .inr (.inl (false, mX2_becomesSheet))), (213, .inr (.inr (.inl (-2147483648)))), (214, .inl (1, 0, 2)), (216, .inr (.inl (false, mX2_becomesRule))), (220, .inr (.inl (false, mX2_digits))), (223, .inr (.inr (.inl (-100000)))), (224, .inr (.inl (false, mX8_worthInOrder))), (227, .inr (.inl (false, mX2_swap))), (230, .inr (.inl (false, mX2_placeOf))), (233, .inr (.inl (false, mX0_countOrders))), (237, .inr (.inl (false, mX0_firstOrder))), (240, .inr (.inl (false, mX8_refusalOfMap))), (243, .inr (.inl (false, mX8_firstOtherwise))), (246, .inl (4, 1, 2)), (249, .inr (.inl (false, mX5_cellAt))), (252, .inl (4, 0, 2)), (256, .inr (.inl (false, mX5_makeRow))), (260, .inr (.inl (false, mX5_putCell))), (263, .inr (.inl (true, mX8_isSeed))), (266, .inr (.inl (false, mX8_coloursDrawn))), (269, .inr (.inr (.inl (99999)))), (270, .inr (.inl (true, mJ6_bitCount_0f7a4))), (273, .inr (.inr (.inr (.inl (48271))))), (275, .inr (.inr (.inr (.inl (2147483647))))), (277, .inr (.inl (false, mX7_unbuiltLot))), (280, .inr (.inr (.inr (.inl (-4611686018427387904))))), (282, .inr (.inl (true, mX8_commonDivisor))), (285, .inr (.inl (false, mX5_hasCell))), (288, .inl (4, 2, 2)), (291, .inr (.inl (false, mX5_hasRange))), (294, .inr (.inr (.inr (.inr 2)))), (300, .inr (.inl (false, mX8_lot))), (303, .inr (.inl (true, mX7_isOfKind)))]
def qm_pl8 : List (Nat × qm_PE) := [(7, .inl (8, 1, 2)), (13, .inl (8, 2, 2)), (16, .inl (8, 3, 2)), (19, .inl (8, 4, 2)), (22, .inl (8, 5, 2)), (25, .inl (8, 7, 2)), (28, .inl (8, 9, 2)), (31, .inl (8, 10, 2)), (34, .inl (8, 17, 2)), (37, .inl (8, 18, 2)), (40, .inl (8, 19, 2)), (43, .inl (8, 20, 2)), (46, .inl (8, 21, 2)), (49, .inl (8, 26, 2)), (52, .inl (8, 27, 2)), (55, .inl (8, 31, 2)), (58, .inl (8, 32, 2)), (61, .inl (8, 33, 2)), (64, .inl (8, 35, 2)), (67, .inl (8, 37, 2)), (70, .inl (8, 8, 0)), (74, .inr (.inl (false, mX9_text))), (78, .inl (8, 0, 0)), (81, .inr (.inl (true, mX9_in))), (85, .inr (.inl (false, mX9_isLot))), (89, .inr (.inl (false, mX9_isBuilt))), (92, .inr (.inl (true, mX9_ones))), (96, .inr (.inl (false, mX9_builtSet))), (99, .inr (.inl (false, mX9_howMany))), (102, .inr (.inl (false, mX9_pairs))), (105, .inl (8, 11, 0)), (108, .inl (8, 12, 0)), (111, .inr (.inl (true, mX9_isByte))), (114, .inl (8, 22, 0)), (117, .inl (8, 23, 0)), (120, .inl (8, 24, 0)), (123, .inl (8, 25, 0)), (126, .inr (.inl (false, mX9_wordFrom))), (130, .inl (8, 30, 0)), (133, .inl (8, 28, 0)), (136, .inr (.inl (true, mX9_rank))), (139, .inl (8, 29, 0)), (142, .inr (.inl (false, mX9_puts))), (146, .inr (.inl (false, mX9_holds))), (149, .inr (.inl (false, mX9_unwinds))), (152, .inr (.inl (false, mX9_next))), (155, .inr (.inr (.inl (100000)))), (156, .inr (.inl (false, mX9_opensOne))), (159, .inr (.inl (false, mX9_signOf))), (162, .inr (.inl (false, mX9_between))), (165, .inr (.inl (false, mX9_eRead))), (169, .inr (.inl (true, mX9_two))), (173, .inr (.inl (false, mX9_says))), (176, .inr (.inl (true, mX9_within))), (179, .inr (.inl (false, mX9_asksOf))), (183, .inr (.inl (false, mX9_all))), (186, .inr (.inl (false, mX9_areBeside))), (190, .inr (.inl (false, mX9_takenBeside))), (193, .inr (.inl (true, mX9_greatest))), (196, .inr (.inl (true, mX9_least))), (199, .inl (8, 6, 0)), (202, .inr (.inl (false, mX9_wouldTake))), (205, .inr (.inl (false, mX9_builds))), (208, .inl (8, 34, 0)), (211, .inr (.inl (false, mX9_younger))), (214, .inr (.inl (false, mX9_movesOf))), (217, .inr (.inl (false, mX9_nextMoves))), (220, .inr (.inl (false, mX9_areTwo))), (223, .inr (.inl (false, mX9_lanes))), (226, .inr (.inl (false, mX9_keeps))), (229, .inr (.inl (false, mX9_laysBack))), (232, .inr (.inl (false, mX9_lanesThought))), (235, .inl (8, 36, 0)), (238, .inr (.inl (false, mX9_swapsRow))), (241, .inr (.inl (false, mX9_buildsRow))), (244, .inr (.inl (false, mX9_notBuilt))), (247, .inr (.inl (false, mX9_begins))), (250, .inr (.inl (false, mX9_manyByRow))), (253, .inr (.inl (false, mX9_rowDigits))), (256, .inr (.inl (false, mX9_nextRow))), (259, .inr (.inl (false, mX9_canPaint))), (262, .inr (.inl (false, mX9_readsRow))), (265, .inr (.inl (false, mX9_worthBehind))), (268, .inr (.inl (false, mX9_sortsRow))), (271, .inr (.inl (false, mX9_placeOf))), (274, .inr (.inr (.inl (-100000)))), (275, .inr (.inl (false, mX9_worthInRow))), (278, .inl (8, 38, 0)), (281, .inr (.inl (false, mX9_fitsRow))), (284, .inr (.inl (false, mX9_fittingRows))), (287, .inr (.inl (false, mX9_sheetWrong))), (290, .inr (.inl (false, mX9_unlike))), (293, .inr (.inl (false, mX9_isSoByRow))), (296, .inr (.inr (.inr (.inl (48271))))), (298, .inr (.inr (.inr (.inl (2147483647))))), (300, .inr (.inr (.inl (99999)))), (301, .inr (.inl (false, mX9_manyBy))), (304, .inr (.inr (.inr (.inl (-4611686018427387904))))), (306, .inr (.inl (true, mX9_lowest))), (310, .inl (8, 13, 1)), (314, .inl (8, 14, 0)), (317, .inl (8, 15, 0)), (320, .inl (8, 16, 0)), (323, .inr (.inl (false, mX9_lot))), (326, .inr (.inl (true, mX9_isUnder)))]
def qm_pl9 : List (Nat × qm_PE) := [(9, .inr (.inl (false, mX7_join))), (15, .inr (.inl (true, mX1_moverOf))), (21, .inl (6, 7, 2)), (25, .inr (.inl (false, mX7_wouldTake))), (29, .inr (.inl (true, mX1_moverBeside))), (33, .inl (6, 0, 0)), (37, .inr (.inl (false, mX7_areBeside))), (41, .inr (.inl (false, mX7_isBuilt))), (45, .inl (6, 8, 2)), (48, .inr (.inl (false, mX6_says)))]
def qm_pl10 : List (Nat × qm_PE) := [(264, .inr (.inr (.inl (65536)))), (265, .inr (.inr (.inl (1431655765)))), (266, .inr (.inr (.inl (858993459)))), (267, .inr (.inr (.inl (252645135))))]
def qm_pl11 : List (Nat × qm_PE) := []
def qm_pool : Nat → Nat → Option qm_PE := fun k i => match k with
  | 0 => qm_pl0.lookup i
  | 1 => qm_pl1.lookup i
  | 2 => qm_pl2.lookup i
  | 3 => qm_pl3.lookup i
  | 4 => qm_pl4.lookup i
  | 5 => qm_pl5.lookup i
  | 6 => qm_pl6.lookup i
  | 7 => qm_pl7.lookup i
  | 8 => qm_pl8.lookup i
  | 9 => qm_pl9.lookup i
  | 10 => qm_pl10.lookup i
  | 11 => qm_pl11.lookup i
  | _ => none
theorem qp_0_11 : qm_pool 0 11 = some (.inl (0, 0, 2)) := rfl
theorem qp_0_15 : qm_pool 0 15 = some (.inl (0, 1, 2)) := rfl
theorem qp_0_18 : qm_pool 0 18 = some (.inl (0, 2, 0)) := rfl
theorem qp_0_22 : qm_pool 0 22 = some (.inl (6, 0, 0)) := rfl
theorem qp_0_27 : qm_pool 0 27 = some (.inr (.inl (false, mX7_colourAmong))) := rfl
theorem qp_0_31 : qm_pool 0 31 = some (.inr (.inl (true, mJ6_numberOfTrailingZeros_0f7a4))) := rfl
theorem qp_0_37 : qm_pool 0 37 = some (.inr (.inl (true, mJ7_fill_53178))) := rfl
theorem qp_0_43 : qm_pool 0 43 = some (.inr (.inl (true, mX0_noneBeside))) := rfl
theorem qp_0_47 : qm_pool 0 47 = some (.inr (.inr (.inr (.inr 0)))) := rfl
theorem qp_0_53 : qm_pool 0 53 = some (.inl (6, 6, 2)) := rfl
theorem qp_1_9 : qm_pool 1 9 = some (.inl (1, 0, 2)) := rfl
theorem qp_1_15 : qm_pool 1 15 = some (.inl (1, 1, 0)) := rfl
theorem qp_1_19 : qm_pool 1 19 = some (.inl (4, 1, 2)) := rfl
theorem qp_1_24 : qm_pool 1 24 = some (.inr (.inl (true, mJ6_bitCount_0f7a4))) := rfl
theorem qp_1_30 : qm_pool 1 30 = some (.inr (.inl (false, mX5_cellAt))) := rfl
theorem qp_1_34 : qm_pool 1 34 = some (.inr (.inl (false, mX2_append))) := rfl
theorem qp_1_38 : qm_pool 1 38 = some (.inr (.inl (false, mX7_unbuiltBits))) := rfl
theorem qp_1_44 : qm_pool 1 44 = some (.inr (.inl (true, mX2_leastRanked))) := rfl
theorem qp_1_48 : qm_pool 1 48 = some (.inr (.inl (true, mJ6_numberOfTrailingZeros_0f7a4))) := rfl
theorem qp_1_51 : qm_pool 1 51 = some (.inr (.inr (.inl (2147483647)))) := rfl
theorem qp_1_52 : qm_pool 1 52 = some (.inl (6, 6, 2)) := rfl
theorem qp_1_55 : qm_pool 1 55 = some (.inr (.inl (false, mX2_placeOf))) := rfl
theorem qp_2_9 : qm_pool 2 9 = some (.inl (2, 0, 2)) := rfl
theorem qp_2_15 : qm_pool 2 15 = some (.inl (2, 1, 2)) := rfl
theorem qp_2_18 : qm_pool 2 18 = some (.inl (2, 2, 2)) := rfl
theorem qp_2_21 : qm_pool 2 21 = some (.inr (.inr (.inr (.inr 2)))) := rfl
theorem qp_2_27 : qm_pool 2 27 = some (.inl (2, 3, 0)) := rfl
theorem qp_2_31 : qm_pool 2 31 = some (.inl (2, 4, 0)) := rfl
theorem qp_2_34 : qm_pool 2 34 = some (.inl (2, 5, 0)) := rfl
theorem qp_2_37 : qm_pool 2 37 = some (.inl (2, 9, 0)) := rfl
theorem qp_2_40 : qm_pool 2 40 = some (.inr (.inl (false, mX3_next))) := rfl
theorem qp_2_43 : qm_pool 2 43 = some (.inr (.inl (false, mX3_expect))) := rfl
theorem qp_2_47 : qm_pool 2 47 = some (.inr (.inl (false, mX3_readOr))) := rfl
theorem qp_2_50 : qm_pool 2 50 = some (.inl (2, 7, 0)) := rfl
theorem qp_2_53 : qm_pool 2 53 = some (.inr (.inl (false, mX3_fail))) := rfl
theorem qp_2_56 : qm_pool 2 56 = some (.inl (2, 6, 0)) := rfl
theorem qp_2_59 : qm_pool 2 59 = some (.inr (.inl (false, mX3_readAnd))) := rfl
theorem qp_2_62 : qm_pool 2 62 = some (.inr (.inl (false, mX3_addStep))) := rfl
theorem qp_2_65 : qm_pool 2 65 = some (.inr (.inl (false, mX3_readNot))) := rfl
theorem qp_2_68 : qm_pool 2 68 = some (.inr (.inl (false, mX3_mayOpen))) := rfl
theorem qp_2_72 : qm_pool 2 72 = some (.inr (.inl (false, mX3_readSum))) := rfl
theorem qp_2_75 : qm_pool 2 75 = some (.inr (.inl (false, mX3_readTerm))) := rfl
theorem qp_2_78 : qm_pool 2 78 = some (.inr (.inl (false, mX3_readOne))) := rfl
theorem qp_2_81 : qm_pool 2 81 = some (.inl (2, 8, 0)) := rfl
theorem qp_2_84 : qm_pool 2 84 = some (.inr (.inl (true, mX3_isLetter))) := rfl
theorem qp_2_87 : qm_pool 2 87 = some (.inr (.inl (false, mX3_readWord))) := rfl
theorem qp_2_90 : qm_pool 2 90 = some (.inr (.inl (true, mX3_isDigit))) := rfl
theorem qp_2_93 : qm_pool 2 93 = some (.inr (.inl (false, mX3_readNumber))) := rfl
theorem qp_2_96 : qm_pool 2 96 = some (.inr (.inl (true, mX3_isSign))) := rfl
theorem qp_2_99 : qm_pool 2 99 = some (.inr (.inl (true, mX3_word))) := rfl
theorem qp_2_103 : qm_pool 2 103 = some (.inr (.inl (false, mX3_standsAtPlace))) := rfl
theorem qp_2_107 : qm_pool 2 107 = some (.inr (.inr (.inr (.inr 3)))) := rfl
theorem qp_2_113 : qm_pool 2 113 = some (.inr (.inr (.inr (.inr 4)))) := rfl
theorem qp_2_117 : qm_pool 2 117 = some (.inr (.inr (.inr (.inr 11)))) := rfl
theorem qp_2_119 : qm_pool 2 119 = some (.inr (.inr (.inr (.inr 12)))) := rfl
theorem qp_2_121 : qm_pool 2 121 = some (.inr (.inr (.inr (.inr 13)))) := rfl
theorem qp_2_123 : qm_pool 2 123 = some (.inr (.inr (.inr (.inr 14)))) := rfl
theorem qp_2_125 : qm_pool 2 125 = some (.inr (.inr (.inr (.inr 15)))) := rfl
theorem qp_2_127 : qm_pool 2 127 = some (.inr (.inr (.inr (.inr 16)))) := rfl
theorem qp_2_129 : qm_pool 2 129 = some (.inr (.inr (.inr (.inr 17)))) := rfl
theorem qp_2_131 : qm_pool 2 131 = some (.inr (.inr (.inr (.inr 18)))) := rfl
theorem qp_2_133 : qm_pool 2 133 = some (.inr (.inr (.inr (.inr 19)))) := rfl
theorem qp_2_135 : qm_pool 2 135 = some (.inr (.inr (.inr (.inr 20)))) := rfl
theorem qp_2_137 : qm_pool 2 137 = some (.inr (.inr (.inr (.inr 21)))) := rfl
theorem qp_2_139 : qm_pool 2 139 = some (.inr (.inr (.inr (.inr 22)))) := rfl
theorem qp_3_9 : qm_pool 3 9 = some (.inl (3, 0, 1)) := rfl
theorem qp_3_17 : qm_pool 3 17 = some (.inr (.inr (.inl (2147483647)))) := rfl
theorem qp_3_18 : qm_pool 3 18 = some (.inl (3, 1, 0)) := rfl
theorem qp_3_22 : qm_pool 3 22 = some (.inl (3, 2, 0)) := rfl
theorem qp_3_25 : qm_pool 3 25 = some (.inr (.inl (false, mX7_unbuiltBits))) := rfl
theorem qp_3_31 : qm_pool 3 31 = some (.inr (.inl (false, mX7_colourBits))) := rfl
theorem qp_3_34 : qm_pool 3 34 = some (.inr (.inl (true, mX4_tryAll))) := rfl
theorem qp_3_38 : qm_pool 3 38 = some (.inr (.inl (false, mX4_canBeBetter))) := rfl
theorem qp_3_42 : qm_pool 3 42 = some (.inr (.inl (true, mJ6_bitCount_0f7a4))) := rfl
theorem qp_3_46 : qm_pool 3 46 = some (.inl (6, 0, 0)) := rfl
theorem qp_3_49 : qm_pool 3 49 = some (.inr (.inl (false, mX7_buildHouse))) := rfl
theorem qp_3_52 : qm_pool 3 52 = some (.inr (.inl (false, mX7_clearLot))) := rfl
theorem qp_4_11 : qm_pool 4 11 = some (.inl (4, 0, 2)) := rfl
theorem qp_4_16 : qm_pool 4 16 = some (.inl (4, 1, 2)) := rfl
theorem qp_4_20 : qm_pool 4 20 = some (.inl (4, 2, 2)) := rfl
theorem qp_4_23 : qm_pool 4 23 = some (.inr (.inl (true, mJ7_fill_53178))) := rfl
theorem qp_4_29 : qm_pool 4 29 = some (.inr (.inl (false, mX5_hasCell))) := rfl
theorem qp_5_9 : qm_pool 5 9 = some (.inl (5, 2, 2)) := rfl
theorem qp_5_18 : qm_pool 5 18 = some (.inl (5, 3, 2)) := rfl
theorem qp_5_24 : qm_pool 5 24 = some (.inl (5, 4, 2)) := rfl
theorem qp_5_27 : qm_pool 5 27 = some (.inl (5, 5, 2)) := rfl
theorem qp_5_30 : qm_pool 5 30 = some (.inl (5, 6, 2)) := rfl
theorem qp_5_33 : qm_pool 5 33 = some (.inl (5, 7, 2)) := rfl
theorem qp_5_36 : qm_pool 5 36 = some (.inr (.inr (.inr (.inr 10)))) := rfl
theorem qp_5_38 : qm_pool 5 38 = some (.inr (.inr (.inr (.inr 3)))) := rfl
theorem qp_5_44 : qm_pool 5 44 = some (.inr (.inr (.inr (.inr 4)))) := rfl
theorem qp_5_48 : qm_pool 5 48 = some (.inr (.inl (false, mX6_addByte))) := rfl
theorem qp_5_52 : qm_pool 5 52 = some (.inr (.inl (false, mX6_readTape))) := rfl
theorem qp_5_55 : qm_pool 5 55 = some (.inl (5, 1, 0)) := rfl
theorem qp_5_59 : qm_pool 5 59 = some (.inr (.inl (false, mX3_read))) := rfl
theorem qp_5_63 : qm_pool 5 63 = some (.inl (5, 0, 0)) := rfl
theorem qp_5_66 : qm_pool 5 66 = some (.inl (2, 0, 2)) := rfl
theorem qp_5_69 : qm_pool 5 69 = some (.inr (.inr (.inr (.inr 2)))) := rfl
theorem qp_5_75 : qm_pool 5 75 = some (.inl (2, 1, 2)) := rfl
theorem qp_5_77 : qm_pool 5 77 = some (.inl (6, 1, 0)) := rfl
theorem qp_5_82 : qm_pool 5 82 = some (.inr (.inl (false, mX7_hasLot))) := rfl
theorem qp_5_86 : qm_pool 5 86 = some (.inl (6, 6, 2)) := rfl
theorem qp_5_89 : qm_pool 5 89 = some (.inr (.inl (true, mJ6_bitCount_0f7a4))) := rfl
theorem qp_5_95 : qm_pool 5 95 = some (.inl (6, 5, 2)) := rfl
theorem qp_5_98 : qm_pool 5 98 = some (.inl (6, 0, 0)) := rfl
theorem qp_5_101 : qm_pool 5 101 = some (.inr (.inl (false, mX6_valueOf))) := rfl
theorem qp_5_105 : qm_pool 5 105 = some (.inr (.inr (.inr (.inr 0)))) := rfl
theorem qp_5_111 : qm_pool 5 111 = some (.inr (.inr (.inr (.inr 1)))) := rfl
theorem qp_5_114 : qm_pool 5 114 = some (.inr (.inl (true, mX3_isUnary))) := rfl
theorem qp_5_117 : qm_pool 5 117 = some (.inr (.inl (true, mX6_unary))) := rfl
theorem qp_5_120 : qm_pool 5 120 = some (.inr (.inl (true, mX6_binary))) := rfl
theorem qp_6_9 : qm_pool 6 9 = some (.inl (6, 4, 2)) := rfl
theorem qp_6_15 : qm_pool 6 15 = some (.inl (6, 5, 2)) := rfl
theorem qp_6_18 : qm_pool 6 18 = some (.inl (6, 6, 2)) := rfl
theorem qp_6_21 : qm_pool 6 21 = some (.inl (6, 7, 2)) := rfl
theorem qp_6_24 : qm_pool 6 24 = some (.inl (6, 8, 2)) := rfl
theorem qp_6_27 : qm_pool 6 27 = some (.inl (6, 0, 0)) := rfl
theorem qp_6_31 : qm_pool 6 31 = some (.inl (6, 1, 0)) := rfl
theorem qp_6_34 : qm_pool 6 34 = some (.inl (6, 2, 0)) := rfl
theorem qp_6_37 : qm_pool 6 37 = some (.inl (6, 3, 0)) := rfl
theorem qp_6_40 : qm_pool 6 40 = some (.inr (.inr (.inr (.inr 2)))) := rfl
theorem qp_6_46 : qm_pool 6 46 = some (.inr (.inl (false, mX7_hasLot))) := rfl
theorem qp_6_50 : qm_pool 6 50 = some (.inr (.inl (false, mX7_isBuilt))) := rfl
theorem qp_6_53 : qm_pool 6 53 = some (.inr (.inl (false, mX7_colourBits))) := rfl
theorem qp_6_57 : qm_pool 6 57 = some (.inr (.inl (true, mJ6_bitCount_0f7a4))) := rfl
theorem qp_6_63 : qm_pool 6 63 = some (.inr (.inl (false, mX7_join))) := rfl
theorem qp_6_67 : qm_pool 6 67 = some (.inr (.inl (false, mX7_colourAmong))) := rfl
theorem qp_6_71 : qm_pool 6 71 = some (.inr (.inl (true, mX7_colourByKind))) := rfl
theorem qp_6_75 : qm_pool 6 75 = some (.inr (.inl (true, mX7_least))) := rfl
theorem qp_6_78 : qm_pool 6 78 = some (.inr (.inl (true, mX7_aboveGreatest))) := rfl
theorem qp_6_81 : qm_pool 6 81 = some (.inr (.inl (true, mJ6_numberOfTrailingZeros_0f7a4))) := rfl
theorem qp_6_84 : qm_pool 6 84 = some (.inr (.inr (.inr (.inr 0)))) := rfl
theorem qp_6_90 : qm_pool 6 90 = some (.inr (.inl (true, mJ6_numberOfLeadingZeros_0f7a4))) := rfl
theorem qp_6_93 : qm_pool 6 93 = some (.inr (.inl (false, mX7_wouldTake))) := rfl
theorem qp_6_96 : qm_pool 6 96 = some (.inr (.inl (false, mX7_putHouse))) := rfl
theorem qp_6_99 : qm_pool 6 99 = some (.inl (1, 1, 0)) := rfl
theorem qp_6_104 : qm_pool 6 104 = some (.inl (1, 0, 2)) := rfl
theorem qp_6_106 : qm_pool 6 106 = some (.inr (.inl (false, mX7_buildHouse))) := rfl
theorem qp_7_10 : qm_pool 7 10 = some (.inl (7, 0, 2)) := rfl
theorem qp_7_16 : qm_pool 7 16 = some (.inl (7, 1, 2)) := rfl
theorem qp_7_19 : qm_pool 7 19 = some (.inl (7, 2, 2)) := rfl
theorem qp_7_22 : qm_pool 7 22 = some (.inl (7, 3, 1)) := rfl
theorem qp_7_29 : qm_pool 7 29 = some (.inl (7, 4, 2)) := rfl
theorem qp_7_36 : qm_pool 7 36 = some (.inl (7, 5, 2)) := rfl
theorem qp_7_43 : qm_pool 7 43 = some (.inl (7, 6, 2)) := rfl
theorem qp_7_50 : qm_pool 7 50 = some (.inl (7, 7, 2)) := rfl
theorem qp_7_57 : qm_pool 7 57 = some (.inl (7, 8, 2)) := rfl
theorem qp_7_61 : qm_pool 7 61 = some (.inl (6, 0, 0)) := rfl
theorem qp_7_65 : qm_pool 7 65 = some (.inl (6, 3, 0)) := rfl
theorem qp_7_68 : qm_pool 7 68 = some (.inr (.inl (false, mX7_howManyColours))) := rfl
theorem qp_7_72 : qm_pool 7 72 = some (.inr (.inl (false, mX7_pairsBeside))) := rfl
theorem qp_7_75 : qm_pool 7 75 = some (.inl (5, 0, 0)) := rfl
theorem qp_7_78 : qm_pool 7 78 = some (.inl (6, 1, 0)) := rfl
theorem qp_7_81 : qm_pool 7 81 = some (.inl (5, 1, 0)) := rfl
theorem qp_7_84 : qm_pool 7 84 = some (.inr (.inl (true, mX8_isByte))) := rfl
theorem qp_7_88 : qm_pool 7 88 = some (.inr (.inl (false, mX6_addByte))) := rfl
theorem qp_7_92 : qm_pool 7 92 = some (.inr (.inl (false, mX6_readTape))) := rfl
theorem qp_7_95 : qm_pool 7 95 = some (.inr (.inl (false, mX7_hasLot))) := rfl
theorem qp_7_98 : qm_pool 7 98 = some (.inr (.inl (true, mX8_isColour))) := rfl
theorem qp_7_101 : qm_pool 7 101 = some (.inr (.inl (false, mX6_says))) := rfl
theorem qp_7_105 : qm_pool 7 105 = some (.inr (.inl (false, mX7_fitsLot))) := rfl
theorem qp_7_109 : qm_pool 7 109 = some (.inr (.inl (false, mX7_addLot))) := rfl
theorem qp_7_113 : qm_pool 7 113 = some (.inl (6, 4, 2)) := rfl
theorem qp_7_117 : qm_pool 7 117 = some (.inl (6, 5, 2)) := rfl
theorem qp_7_120 : qm_pool 7 120 = some (.inl (6, 6, 2)) := rfl
theorem qp_7_123 : qm_pool 7 123 = some (.inr (.inl (false, mX7_colourOf))) := rfl
theorem qp_7_127 : qm_pool 7 127 = some (.inr (.inl (false, mX7_isBuilt))) := rfl
theorem qp_7_130 : qm_pool 7 130 = some (.inl (6, 8, 2)) := rfl
theorem qp_7_133 : qm_pool 7 133 = some (.inr (.inl (false, mX7_buildHouse))) := rfl
theorem qp_7_136 : qm_pool 7 136 = some (.inr (.inl (false, mX7_wouldTake))) := rfl
theorem qp_7_139 : qm_pool 7 139 = some (.inr (.inl (false, mX7_clearLot))) := rfl
theorem qp_7_142 : qm_pool 7 142 = some (.inl (6, 7, 2)) := rfl
theorem qp_7_145 : qm_pool 7 145 = some (.inr (.inl (false, mX7_putHouse))) := rfl
theorem qp_7_149 : qm_pool 7 149 = some (.inr (.inl (false, mX8_refusalOfLane))) := rfl
theorem qp_7_153 : qm_pool 7 153 = some (.inr (.inl (true, mX1_openLane))) := rfl
theorem qp_7_159 : qm_pool 7 159 = some (.inr (.inl (false, mX7_hasTwoLots))) := rfl
theorem qp_7_163 : qm_pool 7 163 = some (.inr (.inl (false, mX7_areBeside))) := rfl
theorem qp_7_166 : qm_pool 7 166 = some (.inr (.inl (false, mX7_part))) := rfl
theorem qp_7_169 : qm_pool 7 169 = some (.inr (.inl (false, mX8_movesInThought))) := rfl
theorem qp_7_172 : qm_pool 7 172 = some (.inr (.inl (false, mX7_becomes))) := rfl
theorem qp_7_176 : qm_pool 7 176 = some (.inr (.inl (false, mX4_run))) := rfl
theorem qp_7_180 : qm_pool 7 180 = some (.inl (3, 1, 0)) := rfl
theorem qp_7_183 : qm_pool 7 183 = some (.inl (3, 2, 0)) := rfl
theorem qp_7_186 : qm_pool 7 186 = some (.inr (.inl (false, mX0_fewestColours))) := rfl
theorem qp_7_190 : qm_pool 7 190 = some (.inr (.inl (false, mX7_unbuiltBits))) := rfl
theorem qp_7_193 : qm_pool 7 193 = some (.inr (.inl (false, mX8_refusalOfOrder))) := rfl
theorem qp_7_196 : qm_pool 7 196 = some (.inl (1, 1, 0)) := rfl
theorem qp_7_197 : qm_pool 7 197 = some (.inr (.inl (false, mX7_buildFirst))) := rfl
theorem qp_7_201 : qm_pool 7 201 = some (.inr (.inl (true, mX5_isSheet))) := rfl
theorem qp_7_204 : qm_pool 7 204 = some (.inr (.inl (false, mX5_isMissing))) := rfl
theorem qp_7_207 : qm_pool 7 207 = some (.inr (.inl (false, mX2_becomesSheet))) := rfl
theorem qp_7_213 : qm_pool 7 213 = some (.inr (.inr (.inl (-2147483648)))) := rfl
theorem qp_7_214 : qm_pool 7 214 = some (.inl (1, 0, 2)) := rfl
theorem qp_7_216 : qm_pool 7 216 = some (.inr (.inl (false, mX2_becomesRule))) := rfl
theorem qp_7_220 : qm_pool 7 220 = some (.inr (.inl (false, mX2_digits))) := rfl
theorem qp_7_223 : qm_pool 7 223 = some (.inr (.inr (.inl (-100000)))) := rfl
theorem qp_7_224 : qm_pool 7 224 = some (.inr (.inl (false, mX8_worthInOrder))) := rfl
theorem qp_7_227 : qm_pool 7 227 = some (.inr (.inl (false, mX2_swap))) := rfl
theorem qp_7_230 : qm_pool 7 230 = some (.inr (.inl (false, mX2_placeOf))) := rfl
theorem qp_7_233 : qm_pool 7 233 = some (.inr (.inl (false, mX0_countOrders))) := rfl
theorem qp_7_237 : qm_pool 7 237 = some (.inr (.inl (false, mX0_firstOrder))) := rfl
theorem qp_7_240 : qm_pool 7 240 = some (.inr (.inl (false, mX8_refusalOfMap))) := rfl
theorem qp_7_243 : qm_pool 7 243 = some (.inr (.inl (false, mX8_firstOtherwise))) := rfl
theorem qp_7_246 : qm_pool 7 246 = some (.inl (4, 1, 2)) := rfl
theorem qp_7_249 : qm_pool 7 249 = some (.inr (.inl (false, mX5_cellAt))) := rfl
theorem qp_7_252 : qm_pool 7 252 = some (.inl (4, 0, 2)) := rfl
theorem qp_7_256 : qm_pool 7 256 = some (.inr (.inl (false, mX5_makeRow))) := rfl
theorem qp_7_260 : qm_pool 7 260 = some (.inr (.inl (false, mX5_putCell))) := rfl
theorem qp_7_263 : qm_pool 7 263 = some (.inr (.inl (true, mX8_isSeed))) := rfl
theorem qp_7_266 : qm_pool 7 266 = some (.inr (.inl (false, mX8_coloursDrawn))) := rfl
theorem qp_7_269 : qm_pool 7 269 = some (.inr (.inr (.inl (99999)))) := rfl
theorem qp_7_270 : qm_pool 7 270 = some (.inr (.inl (true, mJ6_bitCount_0f7a4))) := rfl
theorem qp_7_273 : qm_pool 7 273 = some (.inr (.inr (.inr (.inl (48271))))) := rfl
theorem qp_7_275 : qm_pool 7 275 = some (.inr (.inr (.inr (.inl (2147483647))))) := rfl
theorem qp_7_277 : qm_pool 7 277 = some (.inr (.inl (false, mX7_unbuiltLot))) := rfl
theorem qp_7_280 : qm_pool 7 280 = some (.inr (.inr (.inr (.inl (-4611686018427387904))))) := rfl
theorem qp_7_282 : qm_pool 7 282 = some (.inr (.inl (true, mX8_commonDivisor))) := rfl
theorem qp_7_285 : qm_pool 7 285 = some (.inr (.inl (false, mX5_hasCell))) := rfl
theorem qp_7_288 : qm_pool 7 288 = some (.inl (4, 2, 2)) := rfl
theorem qp_7_291 : qm_pool 7 291 = some (.inr (.inl (false, mX5_hasRange))) := rfl
theorem qp_7_294 : qm_pool 7 294 = some (.inr (.inr (.inr (.inr 2)))) := rfl
theorem qp_7_300 : qm_pool 7 300 = some (.inr (.inl (false, mX8_lot))) := rfl
theorem qp_7_303 : qm_pool 7 303 = some (.inr (.inl (true, mX7_isOfKind))) := rfl
theorem qp_8_7 : qm_pool 8 7 = some (.inl (8, 1, 2)) := rfl
theorem qp_8_13 : qm_pool 8 13 = some (.inl (8, 2, 2)) := rfl
theorem qp_8_16 : qm_pool 8 16 = some (.inl (8, 3, 2)) := rfl
theorem qp_8_19 : qm_pool 8 19 = some (.inl (8, 4, 2)) := rfl
theorem qp_8_22 : qm_pool 8 22 = some (.inl (8, 5, 2)) := rfl
theorem qp_8_25 : qm_pool 8 25 = some (.inl (8, 7, 2)) := rfl
theorem qp_8_28 : qm_pool 8 28 = some (.inl (8, 9, 2)) := rfl
theorem qp_8_31 : qm_pool 8 31 = some (.inl (8, 10, 2)) := rfl
theorem qp_8_34 : qm_pool 8 34 = some (.inl (8, 17, 2)) := rfl
theorem qp_8_37 : qm_pool 8 37 = some (.inl (8, 18, 2)) := rfl
theorem qp_8_40 : qm_pool 8 40 = some (.inl (8, 19, 2)) := rfl
theorem qp_8_43 : qm_pool 8 43 = some (.inl (8, 20, 2)) := rfl
theorem qp_8_46 : qm_pool 8 46 = some (.inl (8, 21, 2)) := rfl
theorem qp_8_49 : qm_pool 8 49 = some (.inl (8, 26, 2)) := rfl
theorem qp_8_52 : qm_pool 8 52 = some (.inl (8, 27, 2)) := rfl
theorem qp_8_55 : qm_pool 8 55 = some (.inl (8, 31, 2)) := rfl
theorem qp_8_58 : qm_pool 8 58 = some (.inl (8, 32, 2)) := rfl
theorem qp_8_61 : qm_pool 8 61 = some (.inl (8, 33, 2)) := rfl
theorem qp_8_64 : qm_pool 8 64 = some (.inl (8, 35, 2)) := rfl
theorem qp_8_67 : qm_pool 8 67 = some (.inl (8, 37, 2)) := rfl
theorem qp_8_70 : qm_pool 8 70 = some (.inl (8, 8, 0)) := rfl
theorem qp_8_74 : qm_pool 8 74 = some (.inr (.inl (false, mX9_text))) := rfl
theorem qp_8_78 : qm_pool 8 78 = some (.inl (8, 0, 0)) := rfl
theorem qp_8_81 : qm_pool 8 81 = some (.inr (.inl (true, mX9_in))) := rfl
theorem qp_8_85 : qm_pool 8 85 = some (.inr (.inl (false, mX9_isLot))) := rfl
theorem qp_8_89 : qm_pool 8 89 = some (.inr (.inl (false, mX9_isBuilt))) := rfl
theorem qp_8_92 : qm_pool 8 92 = some (.inr (.inl (true, mX9_ones))) := rfl
theorem qp_8_96 : qm_pool 8 96 = some (.inr (.inl (false, mX9_builtSet))) := rfl
theorem qp_8_99 : qm_pool 8 99 = some (.inr (.inl (false, mX9_howMany))) := rfl
theorem qp_8_102 : qm_pool 8 102 = some (.inr (.inl (false, mX9_pairs))) := rfl
theorem qp_8_105 : qm_pool 8 105 = some (.inl (8, 11, 0)) := rfl
theorem qp_8_108 : qm_pool 8 108 = some (.inl (8, 12, 0)) := rfl
theorem qp_8_111 : qm_pool 8 111 = some (.inr (.inl (true, mX9_isByte))) := rfl
theorem qp_8_114 : qm_pool 8 114 = some (.inl (8, 22, 0)) := rfl
theorem qp_8_117 : qm_pool 8 117 = some (.inl (8, 23, 0)) := rfl
theorem qp_8_120 : qm_pool 8 120 = some (.inl (8, 24, 0)) := rfl
theorem qp_8_123 : qm_pool 8 123 = some (.inl (8, 25, 0)) := rfl
theorem qp_8_126 : qm_pool 8 126 = some (.inr (.inl (false, mX9_wordFrom))) := rfl
theorem qp_8_130 : qm_pool 8 130 = some (.inl (8, 30, 0)) := rfl
theorem qp_8_133 : qm_pool 8 133 = some (.inl (8, 28, 0)) := rfl
theorem qp_8_136 : qm_pool 8 136 = some (.inr (.inl (true, mX9_rank))) := rfl
theorem qp_8_139 : qm_pool 8 139 = some (.inl (8, 29, 0)) := rfl
theorem qp_8_142 : qm_pool 8 142 = some (.inr (.inl (false, mX9_puts))) := rfl
theorem qp_8_146 : qm_pool 8 146 = some (.inr (.inl (false, mX9_holds))) := rfl
theorem qp_8_149 : qm_pool 8 149 = some (.inr (.inl (false, mX9_unwinds))) := rfl
theorem qp_8_152 : qm_pool 8 152 = some (.inr (.inl (false, mX9_next))) := rfl
theorem qp_8_155 : qm_pool 8 155 = some (.inr (.inr (.inl (100000)))) := rfl
theorem qp_8_156 : qm_pool 8 156 = some (.inr (.inl (false, mX9_opensOne))) := rfl
theorem qp_8_159 : qm_pool 8 159 = some (.inr (.inl (false, mX9_signOf))) := rfl
theorem qp_8_162 : qm_pool 8 162 = some (.inr (.inl (false, mX9_between))) := rfl
theorem qp_8_165 : qm_pool 8 165 = some (.inr (.inl (false, mX9_eRead))) := rfl
theorem qp_8_169 : qm_pool 8 169 = some (.inr (.inl (true, mX9_two))) := rfl
theorem qp_8_173 : qm_pool 8 173 = some (.inr (.inl (false, mX9_says))) := rfl
theorem qp_8_176 : qm_pool 8 176 = some (.inr (.inl (true, mX9_within))) := rfl
theorem qp_8_179 : qm_pool 8 179 = some (.inr (.inl (false, mX9_asksOf))) := rfl
theorem qp_8_183 : qm_pool 8 183 = some (.inr (.inl (false, mX9_all))) := rfl
theorem qp_8_186 : qm_pool 8 186 = some (.inr (.inl (false, mX9_areBeside))) := rfl
theorem qp_8_190 : qm_pool 8 190 = some (.inr (.inl (false, mX9_takenBeside))) := rfl
theorem qp_8_193 : qm_pool 8 193 = some (.inr (.inl (true, mX9_greatest))) := rfl
theorem qp_8_196 : qm_pool 8 196 = some (.inr (.inl (true, mX9_least))) := rfl
theorem qp_8_199 : qm_pool 8 199 = some (.inl (8, 6, 0)) := rfl
theorem qp_8_202 : qm_pool 8 202 = some (.inr (.inl (false, mX9_wouldTake))) := rfl
theorem qp_8_205 : qm_pool 8 205 = some (.inr (.inl (false, mX9_builds))) := rfl
theorem qp_8_208 : qm_pool 8 208 = some (.inl (8, 34, 0)) := rfl
theorem qp_8_211 : qm_pool 8 211 = some (.inr (.inl (false, mX9_younger))) := rfl
theorem qp_8_214 : qm_pool 8 214 = some (.inr (.inl (false, mX9_movesOf))) := rfl
theorem qp_8_217 : qm_pool 8 217 = some (.inr (.inl (false, mX9_nextMoves))) := rfl
theorem qp_8_220 : qm_pool 8 220 = some (.inr (.inl (false, mX9_areTwo))) := rfl
theorem qp_8_223 : qm_pool 8 223 = some (.inr (.inl (false, mX9_lanes))) := rfl
theorem qp_8_226 : qm_pool 8 226 = some (.inr (.inl (false, mX9_keeps))) := rfl
theorem qp_8_229 : qm_pool 8 229 = some (.inr (.inl (false, mX9_laysBack))) := rfl
theorem qp_8_232 : qm_pool 8 232 = some (.inr (.inl (false, mX9_lanesThought))) := rfl
theorem qp_8_235 : qm_pool 8 235 = some (.inl (8, 36, 0)) := rfl
theorem qp_8_238 : qm_pool 8 238 = some (.inr (.inl (false, mX9_swapsRow))) := rfl
theorem qp_8_241 : qm_pool 8 241 = some (.inr (.inl (false, mX9_buildsRow))) := rfl
theorem qp_8_244 : qm_pool 8 244 = some (.inr (.inl (false, mX9_notBuilt))) := rfl
theorem qp_8_247 : qm_pool 8 247 = some (.inr (.inl (false, mX9_begins))) := rfl
theorem qp_8_250 : qm_pool 8 250 = some (.inr (.inl (false, mX9_manyByRow))) := rfl
theorem qp_8_253 : qm_pool 8 253 = some (.inr (.inl (false, mX9_rowDigits))) := rfl
theorem qp_8_256 : qm_pool 8 256 = some (.inr (.inl (false, mX9_nextRow))) := rfl
theorem qp_8_259 : qm_pool 8 259 = some (.inr (.inl (false, mX9_canPaint))) := rfl
theorem qp_8_262 : qm_pool 8 262 = some (.inr (.inl (false, mX9_readsRow))) := rfl
theorem qp_8_265 : qm_pool 8 265 = some (.inr (.inl (false, mX9_worthBehind))) := rfl
theorem qp_8_268 : qm_pool 8 268 = some (.inr (.inl (false, mX9_sortsRow))) := rfl
theorem qp_8_271 : qm_pool 8 271 = some (.inr (.inl (false, mX9_placeOf))) := rfl
theorem qp_8_274 : qm_pool 8 274 = some (.inr (.inr (.inl (-100000)))) := rfl
theorem qp_8_275 : qm_pool 8 275 = some (.inr (.inl (false, mX9_worthInRow))) := rfl
theorem qp_8_278 : qm_pool 8 278 = some (.inl (8, 38, 0)) := rfl
theorem qp_8_281 : qm_pool 8 281 = some (.inr (.inl (false, mX9_fitsRow))) := rfl
theorem qp_8_284 : qm_pool 8 284 = some (.inr (.inl (false, mX9_fittingRows))) := rfl
theorem qp_8_287 : qm_pool 8 287 = some (.inr (.inl (false, mX9_sheetWrong))) := rfl
theorem qp_8_290 : qm_pool 8 290 = some (.inr (.inl (false, mX9_unlike))) := rfl
theorem qp_8_293 : qm_pool 8 293 = some (.inr (.inl (false, mX9_isSoByRow))) := rfl
theorem qp_8_296 : qm_pool 8 296 = some (.inr (.inr (.inr (.inl (48271))))) := rfl
theorem qp_8_298 : qm_pool 8 298 = some (.inr (.inr (.inr (.inl (2147483647))))) := rfl
theorem qp_8_300 : qm_pool 8 300 = some (.inr (.inr (.inl (99999)))) := rfl
theorem qp_8_301 : qm_pool 8 301 = some (.inr (.inl (false, mX9_manyBy))) := rfl
theorem qp_8_304 : qm_pool 8 304 = some (.inr (.inr (.inr (.inl (-4611686018427387904))))) := rfl
theorem qp_8_306 : qm_pool 8 306 = some (.inr (.inl (true, mX9_lowest))) := rfl
theorem qp_8_310 : qm_pool 8 310 = some (.inl (8, 13, 1)) := rfl
theorem qp_8_314 : qm_pool 8 314 = some (.inl (8, 14, 0)) := rfl
theorem qp_8_317 : qm_pool 8 317 = some (.inl (8, 15, 0)) := rfl
theorem qp_8_320 : qm_pool 8 320 = some (.inl (8, 16, 0)) := rfl
theorem qp_8_323 : qm_pool 8 323 = some (.inr (.inl (false, mX9_lot))) := rfl
theorem qp_8_326 : qm_pool 8 326 = some (.inr (.inl (true, mX9_isUnder))) := rfl
theorem qp_9_9 : qm_pool 9 9 = some (.inr (.inl (false, mX7_join))) := rfl
theorem qp_9_15 : qm_pool 9 15 = some (.inr (.inl (true, mX1_moverOf))) := rfl
theorem qp_9_21 : qm_pool 9 21 = some (.inl (6, 7, 2)) := rfl
theorem qp_9_25 : qm_pool 9 25 = some (.inr (.inl (false, mX7_wouldTake))) := rfl
theorem qp_9_29 : qm_pool 9 29 = some (.inr (.inl (true, mX1_moverBeside))) := rfl
theorem qp_9_33 : qm_pool 9 33 = some (.inl (6, 0, 0)) := rfl
theorem qp_9_37 : qm_pool 9 37 = some (.inr (.inl (false, mX7_areBeside))) := rfl
theorem qp_9_41 : qm_pool 9 41 = some (.inr (.inl (false, mX7_isBuilt))) := rfl
theorem qp_9_45 : qm_pool 9 45 = some (.inl (6, 8, 2)) := rfl
theorem qp_9_48 : qm_pool 9 48 = some (.inr (.inl (false, mX6_says))) := rfl
theorem qp_10_264 : qm_pool 10 264 = some (.inr (.inr (.inl (65536)))) := rfl
theorem qp_10_265 : qm_pool 10 265 = some (.inr (.inr (.inl (1431655765)))) := rfl
theorem qp_10_266 : qm_pool 10 266 = some (.inr (.inr (.inl (858993459)))) := rfl
theorem qp_10_267 : qm_pool 10 267 = some (.inr (.inr (.inl (252645135)))) := rfl
def qm_layT : List qm_LE := [.inl (2, [.inr 1, .inr 2, .inr 3, .inl 0, .inl 1, .inl 2, .inl 3, .inl 4, .inl 5, .inl 6]), .inr (.inl (160, 0)), .inr (.inl (4, 1)), .inr (.inl (160, 2)), .inl (5, [.inl 7, .inl 8, .inr 5, .inr 0, .inr 8, .inr 9, .inr 6, .inr 7]), .inr (.inl (160, 3)), .inr (.inl (6, 4)), .inr (.inl (64, 5)), .inr (.inr (6, 10)), .inr (.inr (6, 16)), .inr (.inl (160, 6)), .inr (.inl (160, 7)), .inr (.inl (160, 8)), .inr (.inl (160, 9)), .inr (.inl (160, 10)), .inr (.inl (160, 11)), .inr (.inl (4, 12)), .inr (.inl (4, 13)), .inr (.inl (4, 14)), .inr (.inl (4, 15)), .inr (.inl (4, 16)), .inr (.inl (4, 17))]
def qm_layR : List qm_LE := [.inl (6, [.inl 9, .inl 10, .inl 11, .inl 12, .inr 23, .inr 24, .inr 25, .inr 26, .inr 27]), .inr (.inl (7, 18)), .inr (.inl (7, 19)), .inr (.inl (7, 20)), .inr (.inl (7, 21)), .inr (.inl (7, 22)), .inl (6, [.inl 13, .inl 14, .inl 15, .inl 16, .inr 29, .inr 30, .inr 31, .inr 32, .inr 33]), .inr (.inl (7, 23)), .inr (.inl (7, 24)), .inr (.inl (7, 25)), .inr (.inl (7, 26)), .inr (.inl (7, 27)), .inl (6, [.inl 17, .inl 18, .inl 19, .inl 20, .inr 35, .inr 36, .inr 37, .inr 38, .inr 39]), .inr (.inl (7, 28)), .inr (.inl (7, 29)), .inr (.inl (7, 30)), .inr (.inl (7, 31)), .inr (.inl (7, 32)), .inl (4, [.inr 41, .inr 42, .inr 43]), .inr (.inr (4, 44)), .inr (.inl (4, 33)), .inr (.inl (4, 34)), .inr (.inl (40, 35)), .inr (.inl (40, 36)), .inr (.inl (40, 37)), .inr (.inl (40, 38)), .inl (1, [.inr 49, .inl 21]), .inr (.inl (7, 39)), .inl (3, [.inl 22, .inl 23, .inl 24]), .inl (0, [.inr 52, .inr 53, .inl 25]), .inr (.inl (128, 40)), .inr (.inl (128, 41)), .inl (7, [.inr 22, .inr 28, .inr 34, .inl 26, .inr 4, .inr 40, .inr 48, .inr 50, .inr 51]), .inl (8, [.inl 27, .inr 56, .inr 57, .inr 58, .inr 59, .inr 60, .inl 28, .inr 61, .inl 29, .inr 62, .inr 63, .inl 30, .inl 31, .inl 32, .inl 33, .inl 34, .inl 35, .inr 64, .inr 65, .inr 66, .inr 67, .inr 68, .inl 36, .inl 37, .inl 38, .inl 39, .inr 69, .inr 70, .inl 40, .inl 41, .inl 42, .inr 71, .inr 72, .inr 73, .inl 43, .inr 74, .inl 44, .inr 75, .inl 45]), .inr (.inl (7, 42)), .inr (.inl (7, 43)), .inr (.inl (7, 44)), .inr (.inl (7, 45)), .inr (.inl (7, 46)), .inr (.inl (160, 47)), .inr (.inl (1200, 48)), .inr (.inl (24, 49)), .inr (.inl (21, 50)), .inr (.inl (4, 51)), .inr (.inl (4, 52)), .inr (.inl (160, 53)), .inr (.inl (47, 54)), .inr (.inl (96, 55)), .inr (.inl (200, 56)), .inr (.inl (200, 57)), .inr (.inl (6, 58)), .inr (.inl (21, 59)), .inr (.inl (7, 60)), .inr (.inl (7, 61))]
def qm_lay : List qm_LE := qm_layT ++ qm_layR

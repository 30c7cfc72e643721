abbrev mX0_init : z_M := (RX0, yX0_init, cX0_init, 2, none)
abbrev mX0_takeFrom : z_M := (RX0, yX0_takeFrom, cX0_takeFrom, 2, none)
abbrev mX0_has : z_M := (RX0, yX0_has, cX0_has, 2, (some .boolean))
abbrev mX0_join : z_M := (RX0, yX0_join, cX0_join, 5, (some .int))
abbrev mX0_trait : z_M := (RX0, yX0_trait, cX0_trait, 3, (some .int))
abbrev mX0_suppose : z_M := (RX0, yX0_suppose, cX0_suppose, 5, none)
abbrev mX0_who : z_M := (RX0, yX0_who, cX0_who, 2, (some .int))
abbrev mX0_placeOf : z_M := (RX0, yX0_placeOf, cX0_placeOf, 3, (some .int))
abbrev mX0_placeBehind : z_M := (RX0, yX0_placeBehind, cX0_placeBehind, 2, (some .int))
abbrev mX0_leave : z_M := (RX0, yX0_leave, cX0_leave, 3, none)
abbrev mX0_enter : z_M := (RX0, yX0_enter, cX0_enter, 4, none)
abbrev mX0_exchange : z_M := (RX0, yX0_exchange, cX0_exchange, 5, none)
abbrev mX0_passHour : z_M := (RX0, yX0_passHour, cX0_passHour, 3, none)
abbrev mX0_holds : z_M := (RX0, yX0_holds, cX0_holds, 1, (some .int))
abbrev mX0_holdFrom : z_M := (RX0, yX0_holdFrom, cX0_holdFrom, 4, (some .int))
abbrev mX0_weakest : z_M := (RX0, yX0_weakest, cX0_weakest, 5, (some .int))
abbrev mX0_gates : z_M := (RX0, yX0_gates, cX0_gates, 4, (some .int))
abbrev mX0_firstGate : z_M := (RX0, yX0_firstGate, cX0_firstGate, 3, (some .int))
abbrev mX0_firstUnlike : z_M := (RX0, yX0_firstUnlike, cX0_firstUnlike, 4, (some .int))
abbrev mX0_gripOf : z_M := (RX0, yX0_gripOf, cX0_gripOf, 5, (some .int))
abbrev mX0_asBrother : z_M := (RX0, yX0_asBrother, cX0_asBrother, 3, (some .int))
abbrev mX0_handedOn : z_M := (RX0, yX0_handedOn, cX0_handedOn, 4, (some .int))
abbrev mX0_spentBy : z_M := (RX0, yX0_spentBy, cX0_spentBy, 3, (some .int))
abbrev mX0_named : z_M := (RX0, yX0_named, cX0_named, 4, (some .int))
abbrev mX1_init : z_M := (RX1, yX1_init, cX1_init, 1, none)
abbrev mX1_look : z_M := (RX1, yX1_look, cX1_look, 5, none)
abbrev mX1_between : z_M := (RX1, yX1_between, cX1_between, 4, (some .int))
abbrev mX1_weakestNow : z_M := (RX1, yX1_weakestNow, cX1_weakestNow, 3, (some .int))
abbrev mX1_change : z_M := (RX1, yX1_change, cX1_change, 4, none)
abbrev mX1_seekBest : z_M := (RX1, yX1_seekBest, cX1_seekBest, 3, none)
abbrev mX1_seekFrom : z_M := (RX1, yX1_seekFrom, cX1_seekFrom, 6, none)
abbrev mX1_bestDigits : z_M := (RX1, yX1_bestDigits, cX1_bestDigits, 3, (some .int))
abbrev mX1_fewestChanges : z_M := (RX1, yX1_fewestChanges, cX1_fewestChanges, 2, (some .int))
abbrev mX1_closesBy : z_M := (RX1, yX1_closesBy, cX1_closesBy, 5, (some .boolean))
abbrev mX1_weakestDrawn : z_M := (RX1, yX1_weakestDrawn, cX1_weakestDrawn, 6, (some .int))
abbrev mX2_init : z_M := (RX2, yX2_init, cX2_init, 2, none)
abbrev mX2_add : z_M := (RX2, yX2_add, cX2_add, 2, (some .boolean))
abbrev mX2_read : z_M := (RX2, yX2_read, cX2_read, 3, (some .int))
abbrev mX2_readPart : z_M := (RX2, yX2_readPart, cX2_readPart, 2, (some .boolean))
abbrev mX2_readEither : z_M := (RX2, yX2_readEither, cX2_readEither, 4, (some .boolean))
abbrev mX2_readBoth : z_M := (RX2, yX2_readBoth, cX2_readBoth, 4, (some .boolean))
abbrev mX2_readDenial : z_M := (RX2, yX2_readDenial, cX2_readDenial, 3, (some .boolean))
abbrev mX2_readComparison : z_M := (RX2, yX2_readComparison, cX2_readComparison, 4, (some .boolean))
abbrev mX2_readSum : z_M := (RX2, yX2_readSum, cX2_readSum, 5, (some .boolean))
abbrev mX2_readTerm : z_M := (RX2, yX2_readTerm, cX2_readTerm, 4, (some .boolean))
abbrev mX2_readOne : z_M := (RX2, yX2_readOne, cX2_readOne, 2, (some .boolean))
abbrev mX2_readNegation : z_M := (RX2, yX2_readNegation, cX2_readNegation, 3, (some .boolean))
abbrev mX2_readBrackets : z_M := (RX2, yX2_readBrackets, cX2_readBrackets, 2, (some .boolean))
abbrev mX2_advance : z_M := (RX2, yX2_advance, cX2_advance, 2, none)
abbrev mX2_letterAt : z_M := (RX2, yX2_letterAt, cX2_letterAt, 2, (some .int))
abbrev mX2_readDigits : z_M := (RX2, yX2_readDigits, cX2_readDigits, 2, none)
abbrev mX2_readWord : z_M := (RX2, yX2_readWord, cX2_readWord, 2, none)
abbrev mX2_isHere : z_M := (RX2, yX2_isHere, cX2_isHere, 3, (some .boolean))
abbrev mX2_isDigit : z_M := (RX2, yX2_isDigit, cX2_isDigit, 1, (some .boolean))
abbrev mX2_isSmall : z_M := (RX2, yX2_isSmall, cX2_isSmall, 1, (some .boolean))
abbrev mX2_isSign : z_M := (RX2, yX2_isSign, cX2_isSign, 1, (some .boolean))
abbrev mX2_word : z_M := (RX2, yX2_word, cX2_word, 1, (some (.object "java/lang/String")))
abbrev mX3_init : z_M := (RX3, yX3_init, cX3_init, 1, none)
abbrev mX3_become : z_M := (RX3, yX3_become, cX3_become, 4, none)
abbrev mX3_has : z_M := (RX3, yX3_has, cX3_has, 2, (some .boolean))
abbrev mX3_hasRun : z_M := (RX3, yX3_hasRun, cX3_hasRun, 3, (some .boolean))
abbrev mX3_put : z_M := (RX3, yX3_put, cX3_put, 3, none)
abbrev mX4_init : z_M := (RX4, yX4_init, cX4_init, 1, none)
abbrev mX4_begin : z_M := (RX4, yX4_begin, cX4_begin, 1, none)
abbrev mX4_put : z_M := (RX4, yX4_put, cX4_put, 2, none)
abbrev mX4_endPart : z_M := (RX4, yX4_endPart, cX4_endPart, 3, none)
abbrev mX4_value : z_M := (RX4, yX4_value, cX4_value, 12, (some .int))
abbrev mX4_done : z_M := (RX4, yX4_done, cX4_done, 3, (some .int))
abbrev mX5_init : z_M := (RX5, yX5_init, cX5_init, 3, none)
abbrev mX5_set : z_M := (RX5, yX5_set, cX5_set, 5, (some .int))
abbrev mX5_man : z_M := (RX5, yX5_man, cX5_man, 4, (some .int))
abbrev mX5_told : z_M := (RX5, yX5_told, cX5_told, 3, (some .int))
abbrev mX5_grips : z_M := (RX5, yX5_grips, cX5_grips, 3, (some .int))
abbrev mX5_hands : z_M := (RX5, yX5_hands, cX5_hands, 3, (some .int))
abbrev mX5_feed : z_M := (RX5, yX5_feed, cX5_feed, 2, (some .int))
abbrev mX5_text : z_M := (RX5, yX5_text, cX5_text, 2, (some .int))
abbrev mX5_force : z_M := (RX5, yX5_force, cX5_force, 3, (some .int))
abbrev mX5_out : z_M := (RX5, yX5_out, cX5_out, 3, (some .int))
abbrev mX5_into : z_M := (RX5, yX5_into, cX5_into, 3, (some .int))
abbrev mX5_swap : z_M := (RX5, yX5_swap, cX5_swap, 5, (some .int))
abbrev mX5_hour : z_M := (RX5, yX5_hour, cX5_hour, 1, (some .int))
abbrev mX5_wall : z_M := (RX5, yX5_wall, cX5_wall, 2, (some .int))
abbrev mX5_sneeze : z_M := (RX5, yX5_sneeze, cX5_sneeze, 9, (some .int))
abbrev mX5_run : z_M := (RX5, yX5_run, cX5_run, 6, (some .int))
abbrev mX5_opens : z_M := (RX5, yX5_opens, cX5_opens, 2, (some .int))
abbrev mX5_order : z_M := (RX5, yX5_order, cX5_order, 2, (some .int))
abbrev mX5_let : z_M := (RX5, yX5_let, cX5_let, 7, (some .int))
abbrev mX5_letsIn : z_M := (RX5, yX5_letsIn, cX5_letsIn, 7, (some .int))
abbrev mX5_swaps : z_M := (RX5, yX5_swaps, cX5_swaps, 1, (some .int))
abbrev mX5_mean : z_M := (RX5, yX5_mean, cX5_mean, 4, (some .long))
abbrev mX5_tells : z_M := (RX5, yX5_tells, cX5_tells, 5, (some .int))
abbrev mX5_film : z_M := (RX5, yX5_film, cX5_film, 5, (some .int))
abbrev mX5_drawn : z_M := (RX5, yX5_drawn, cX5_drawn, 3, (some .int))
abbrev mX5_chance : z_M := (RX5, yX5_chance, cX5_chance, 7, (some .long))
abbrev mX5_image : z_M := (RX5, yX5_image, cX5_image, 1, (some .int))
abbrev mX5_back : z_M := (RX5, yX5_back, cX5_back, 1, (some .int))
abbrev mX5_count : z_M := (RX5, yX5_count, cX5_count, 2, (some .int))
abbrev mX5_sheet : z_M := (RX5, yX5_sheet, cX5_sheet, 4, (some .int))
abbrev mX5_cell : z_M := (RX5, yX5_cell, cX5_cell, 5, (some .int))
abbrev mX5_copy : z_M := (RX5, yX5_copy, cX5_copy, 8, (some .int))
abbrev mX5_chain : z_M := (RX5, yX5_chain, cX5_chain, 9, (some .int))
abbrev mX5_taken : z_M := (RX5, yX5_taken, cX5_taken, 3, (some .int))
abbrev mX5_isSheet : z_M := (RX5, yX5_isSheet, cX5_isSheet, 1, (some .boolean))
abbrev mX5_greatest : z_M := (RX5, yX5_greatest, cX5_greatest, 1, (some .int))
abbrev mX5_bounded : z_M := (RX5, yX5_bounded, cX5_bounded, 1, (some .int))
abbrev mX5_isUnder : z_M := (RX5, yX5_isUnder, cX5_isUnder, 4, (some .boolean))
abbrev mX5_lowestTerm : z_M := (RX5, yX5_lowestTerm, cX5_lowestTerm, 7, (some .long))
abbrev mX5_readBack : z_M := (RX5, yX5_readBack, cX5_readBack, 10, (some .int))
abbrev mX5_traitReadBack : z_M := (RX5, yX5_traitReadBack, cX5_traitReadBack, 1, (some .int))
abbrev mX6_in : z_M := (RX6, yX6_in, cX6_in, 6, (some .boolean))
abbrev mX6_within : z_M := (RX6, yX6_within, cX6_within, 3, (some .int))
abbrev mX6_init : z_M := (RX6, yX6_init, cX6_init, 1, none)
abbrev mX6_spell : z_M := (RX6, yX6_spell, cX6_spell, 10, none)
abbrev mX6_isOne : z_M := (RX6, yX6_isOne, cX6_isOne, 2, (some .boolean))
abbrev mX6_areTwo : z_M := (RX6, yX6_areTwo, cX6_areTwo, 3, (some .boolean))
abbrev mX6_isPlace : z_M := (RX6, yX6_isPlace, cX6_isPlace, 2, (some .boolean))
abbrev mX6_isOf : z_M := (RX6, yX6_isOf, cX6_isOf, 3, (some .boolean))
abbrev mX6_mostOf : z_M := (RX6, yX6_mostOf, cX6_mostOf, 1, (some .int))
abbrev mX6_set : z_M := (RX6, yX6_set, cX6_set, 5, (some .int))
abbrev mX6_lays : z_M := (RX6, yX6_lays, cX6_lays, 4, none)
abbrev mX6_man : z_M := (RX6, yX6_man, cX6_man, 4, (some .int))
abbrev mX6_told : z_M := (RX6, yX6_told, cX6_told, 3, (some .int))
abbrev mX6_placeOf : z_M := (RX6, yX6_placeOf, cX6_placeOf, 4, (some .int))
abbrev mX6_feed : z_M := (RX6, yX6_feed, cX6_feed, 2, (some .int))
abbrev mX6_byteAt : z_M := (RX6, yX6_byteAt, cX6_byteAt, 2, (some .int))
abbrev mX6_next : z_M := (RX6, yX6_next, cX6_next, 3, none)
abbrev mX6_fail : z_M := (RX6, yX6_fail, cX6_fail, 1, none)
abbrev mX6_isLetter : z_M := (RX6, yX6_isLetter, cX6_isLetter, 3, (some .boolean))
abbrev mX6_isWord : z_M := (RX6, yX6_isWord, cX6_isWord, 9, (some .boolean))
abbrev mX6_isSign : z_M := (RX6, yX6_isSign, cX6_isSign, 2, (some .boolean))
abbrev mX6_textOpens : z_M := (RX6, yX6_textOpens, cX6_textOpens, 1, (some .boolean))
abbrev mX6_name : z_M := (RX6, yX6_name, cX6_name, 1, (some .int))
abbrev mX6_atom : z_M := (RX6, yX6_atom, cX6_atom, 2, (some .int))
abbrev mX6_term : z_M := (RX6, yX6_term, cX6_term, 2, (some .int))
abbrev mX6_added : z_M := (RX6, yX6_added, cX6_added, 4, (some .int))
abbrev mX6_not : z_M := (RX6, yX6_not, cX6_not, 4, (some .int))
abbrev mX6_both : z_M := (RX6, yX6_both, cX6_both, 3, (some .int))
abbrev mX6_either : z_M := (RX6, yX6_either, cX6_either, 3, (some .int))
abbrev mX6_part : z_M := (RX6, yX6_part, cX6_part, 3, (some .int))
abbrev mX6_read : z_M := (RX6, yX6_read, cX6_read, 6, (some .int))
abbrev mX6_text : z_M := (RX6, yX6_text, cX6_text, 2, (some .int))
abbrev mX6_force : z_M := (RX6, yX6_force, cX6_force, 3, (some .int))
abbrev mX6_says : z_M := (RX6, yX6_says, cX6_says, 4, (some .int))
abbrev mX6_gripsOf : z_M := (RX6, yX6_gripsOf, cX6_gripsOf, 8, (some .int))
abbrev mX6_handsOf : z_M := (RX6, yX6_handsOf, cX6_handsOf, 5, (some .int))
abbrev mX6_spentOf : z_M := (RX6, yX6_spentOf, cX6_spentOf, 4, (some .int))
abbrev mX6_grips : z_M := (RX6, yX6_grips, cX6_grips, 3, (some .int))
abbrev mX6_hands : z_M := (RX6, yX6_hands, cX6_hands, 3, (some .int))
abbrev mX6_hold : z_M := (RX6, yX6_hold, cX6_hold, 6, (some .int))
abbrev mX6_weakest : z_M := (RX6, yX6_weakest, cX6_weakest, 4, (some .int))
abbrev mX6_gates : z_M := (RX6, yX6_gates, cX6_gates, 3, (some .int))
abbrev mX6_firstGate : z_M := (RX6, yX6_firstGate, cX6_firstGate, 3, (some .int))
abbrev mX6_wall : z_M := (RX6, yX6_wall, cX6_wall, 2, (some .int))
abbrev mX6_closesUp : z_M := (RX6, yX6_closesUp, cX6_closesUp, 3, none)
abbrev mX6_stands : z_M := (RX6, yX6_stands, cX6_stands, 4, none)
abbrev mX6_out : z_M := (RX6, yX6_out, cX6_out, 3, (some .int))
abbrev mX6_into : z_M := (RX6, yX6_into, cX6_into, 3, (some .int))
abbrev mX6_change : z_M := (RX6, yX6_change, cX6_change, 4, none)
abbrev mX6_swap : z_M := (RX6, yX6_swap, cX6_swap, 3, (some .int))
abbrev mX6_passes : z_M := (RX6, yX6_passes, cX6_passes, 3, none)
abbrev mX6_hour : z_M := (RX6, yX6_hour, cX6_hour, 1, (some .int))
abbrev mX6_sneeze : z_M := (RX6, yX6_sneeze, cX6_sneeze, 9, (some .int))
abbrev mX6_laysAside : z_M := (RX6, yX6_laysAside, cX6_laysAside, 2, none)
abbrev mX6_laysBack : z_M := (RX6, yX6_laysBack, cX6_laysBack, 2, none)
abbrev mX6_run : z_M := (RX6, yX6_run, cX6_run, 4, (some .int))
abbrev mX6_opens : z_M := (RX6, yX6_opens, cX6_opens, 2, (some .int))
abbrev mX6_digitsOf : z_M := (RX6, yX6_digitsOf, cX6_digitsOf, 3, (some .int))
abbrev mX6_orders : z_M := (RX6, yX6_orders, cX6_orders, 4, none)
abbrev mX6_order : z_M := (RX6, yX6_order, cX6_order, 4, (some .int))
abbrev mX6_let : z_M := (RX6, yX6_let, cX6_let, 7, (some .int))
abbrev mX6_letsIn : z_M := (RX6, yX6_letsIn, cX6_letsIn, 8, (some .int))
abbrev mX6_shutBy : z_M := (RX6, yX6_shutBy, cX6_shutBy, 4, (some .boolean))
abbrev mX6_swaps : z_M := (RX6, yX6_swaps, cX6_swaps, 2, (some .int))
abbrev mX6_lowest : z_M := (RX6, yX6_lowest, cX6_lowest, 11, (some .long))
abbrev mX6_mean : z_M := (RX6, yX6_mean, cX6_mean, 4, (some .long))
abbrev mX6_firstOther : z_M := (RX6, yX6_firstOther, cX6_firstOther, 3, (some .int))
abbrev mX6_tells : z_M := (RX6, yX6_tells, cX6_tells, 11, (some .int))
abbrev mX6_film : z_M := (RX6, yX6_film, cX6_film, 4, (some .int))
abbrev mX6_weakestDrawn : z_M := (RX6, yX6_weakestDrawn, cX6_weakestDrawn, 7, (some .int))
abbrev mX6_drawn : z_M := (RX6, yX6_drawn, cX6_drawn, 3, (some .int))
abbrev mX6_chance : z_M := (RX6, yX6_chance, cX6_chance, 8, (some .long))
abbrev mX6_image : z_M := (RX6, yX6_image, cX6_image, 2, (some .int))
abbrev mX6_back : z_M := (RX6, yX6_back, cX6_back, 2, (some .int))
abbrev mX6_count : z_M := (RX6, yX6_count, cX6_count, 2, (some .int))
abbrev mX6_isSheet : z_M := (RX6, yX6_isSheet, cX6_isSheet, 1, (some .boolean))
abbrev mX6_sheet : z_M := (RX6, yX6_sheet, cX6_sheet, 5, (some .int))
abbrev mX6_cell : z_M := (RX6, yX6_cell, cX6_cell, 4, (some .int))
abbrev mX6_copy : z_M := (RX6, yX6_copy, cX6_copy, 9, (some .int))
abbrev mX6_chain : z_M := (RX6, yX6_chain, cX6_chain, 8, (some .int))
abbrev mX6_over : z_M := (RX6, yX6_over, cX6_over, 1, (some .int))
abbrev mX6_taken : z_M := (RX6, yX6_taken, cX6_taken, 4, (some .int))
theorem w_10_10 : Cond.fieldLink RX6 23 "WallsOfPrisonersModel" "rows" "[I" ∈ wsL_law := zs10 _ (List.mem_of_getElem? (i := 10) rfl)
theorem w_10_11 : Cond.fieldLink RX6 26 "WallsOfPrisonersModel" "ring" "[I" ∈ wsL_law := zs10 _ (List.mem_of_getElem? (i := 11) rfl)
theorem w_10_12 : Cond.fieldLink RX6 29 "WallsOfPrisonersModel" "spent" "[I" ∈ wsL_law := zs10 _ (List.mem_of_getElem? (i := 12) rfl)
theorem w_10_13 : Cond.fieldLink RX6 32 "WallsOfPrisonersModel" "was" "[I" ∈ wsL_law := zs10 _ (List.mem_of_getElem? (i := 13) rfl)
theorem w_10_14 : Cond.fieldLink RX6 35 "WallsOfPrisonersModel" "ringWas" "[I" ∈ wsL_law := zs10 _ (List.mem_of_getElem? (i := 14) rfl)
theorem w_10_15 : Cond.fieldLink RX6 38 "WallsOfPrisonersModel" "rowsKept" "[I" ∈ wsL_law := zs10 _ (List.mem_of_getElem? (i := 15) rfl)
theorem w_10_16 : Cond.fieldLink RX6 41 "WallsOfPrisonersModel" "ringKept" "[I" ∈ wsL_law := zs10 _ (List.mem_of_getElem? (i := 16) rfl)
theorem w_10_17 : Cond.fieldLink RX6 44 "WallsOfPrisonersModel" "menKept" "I" ∈ wsL_law := zs10 _ (List.mem_of_getElem? (i := 17) rfl)
theorem w_10_19 : Cond.fieldLink RX6 47 "WallsOfPrisonersModel" "isThere" "[Z" ∈ wsL_law := zs10 _ (List.mem_of_getElem? (i := 19) rfl)
theorem w_10_20 : Cond.fieldLink RX6 51 "WallsOfPrisonersModel" "sorts" "[I" ∈ wsL_law := zs10 _ (List.mem_of_getElem? (i := 20) rfl)
theorem w_10_21 : Cond.fieldLink RX6 54 "WallsOfPrisonersModel" "sheetSize" "[I" ∈ wsL_law := zs10 _ (List.mem_of_getElem? (i := 21) rfl)
theorem w_10_22 : Cond.fieldLink RX6 57 "WallsOfPrisonersModel" "items" "[I" ∈ wsL_law := zs10 _ (List.mem_of_getElem? (i := 22) rfl)
theorem w_10_23 : Cond.fieldLink RX6 64 "WallsOfPrisonersModel" "textCount" "I" ∈ wsL_law := zs10 _ (List.mem_of_getElem? (i := 23) rfl)
theorem w_10_7 : Cond.fieldLink RX6 13 "WallsOfPrisonersModel" "texts" "[I" ∈ wsL_law := zs10 _ (List.mem_of_getElem? (i := 7) rfl)
theorem w_10_8 : Cond.fieldLink RX6 17 "WallsOfPrisonersModel" "textSize" "[I" ∈ wsL_law := zs10 _ (List.mem_of_getElem? (i := 8) rfl)
theorem w_10_9 : Cond.fieldLink RX6 20 "WallsOfPrisonersModel" "tape" "[I" ∈ wsL_law := zs10 _ (List.mem_of_getElem? (i := 9) rfl)
theorem w_11_15 : Cond.fieldLink RX0 34 "WallsOfPrisoners$Marsh" "men" "I" ∈ wsL_law := zs11 _ (List.mem_of_getElem? (i := 15) rfl)
theorem w_11_20 : Cond.fieldLink RX0 41 "WallsOfPrisoners$Marsh" "hour" "I" ∈ wsL_law := zs11 _ (List.mem_of_getElem? (i := 20) rfl)
theorem w_11_21 : Cond.fieldLink RX0 44 "WallsOfPrisoners$Marsh" "cold" "I" ∈ wsL_law := zs11 _ (List.mem_of_getElem? (i := 21) rfl)
theorem w_12_16 : Cond.fieldLink RX6 78 "WallsOfPrisonersModel" "size" "I" ∈ wsL_law := zs12 _ (List.mem_of_getElem? (i := 16) rfl)
theorem w_12_21 : Cond.fieldLink RX6 67 "WallsOfPrisonersModel" "men" "I" ∈ wsL_law := zs12 _ (List.mem_of_getElem? (i := 21) rfl)
theorem w_12_3 : Cond.fieldLink RX0 47 "WallsOfPrisoners$Marsh" "rule" "I" ∈ wsL_law := zs12 _ (List.mem_of_getElem? (i := 3) rfl)
theorem w_12_8 : Cond.constantLong RX6 84 (3) ∈ wsL_law := zs12 _ (List.mem_of_getElem? (i := 8) rfl)
theorem w_13_10 : Cond.fieldLink RX6 102 "WallsOfPrisonersModel" "hourNow" "I" ∈ wsL_law := zs13 _ (List.mem_of_getElem? (i := 10) rfl)
theorem w_13_11 : Cond.fieldLink RX6 105 "WallsOfPrisonersModel" "cold" "I" ∈ wsL_law := zs13 _ (List.mem_of_getElem? (i := 11) rfl)
theorem w_13_9 : Cond.constantLong RX6 117 (8) ∈ wsL_law := zs13 _ (List.mem_of_getElem? (i := 9) rfl)
theorem w_14_0 : Cond.fieldLink RX6 188 "WallsOfPrisonersModel" "ofStrength" "I" ∈ wsL_law := zs14 _ (List.mem_of_getElem? (i := 0) rfl)
theorem w_14_1 : Cond.fieldLink RX6 191 "WallsOfPrisonersModel" "ofNext" "I" ∈ wsL_law := zs14 _ (List.mem_of_getElem? (i := 1) rfl)
theorem w_14_11 : Cond.fieldLink RX6 136 "WallsOfPrisonersModel" "from" "I" ∈ wsL_law := zs14 _ (List.mem_of_getElem? (i := 11) rfl)
theorem w_14_12 : Cond.fieldLink RX6 133 "WallsOfPrisonersModel" "textEnd" "I" ∈ wsL_law := zs14 _ (List.mem_of_getElem? (i := 12) rfl)
theorem w_14_13 : Cond.fieldLink RX6 139 "WallsOfPrisonersModel" "here" "I" ∈ wsL_law := zs14 _ (List.mem_of_getElem? (i := 13) rfl)
theorem w_14_14 : Cond.fieldLink RX6 175 "WallsOfPrisonersModel" "open" "I" ∈ wsL_law := zs14 _ (List.mem_of_getElem? (i := 14) rfl)
theorem w_14_15 : Cond.fieldLink RX6 165 "WallsOfPrisonersModel" "bad" "Z" ∈ wsL_law := zs14 _ (List.mem_of_getElem? (i := 15) rfl)
theorem w_14_16 : Cond.fieldLink RX6 148 "WallsOfPrisonersModel" "token" "I" ∈ wsL_law := zs14 _ (List.mem_of_getElem? (i := 16) rfl)
theorem w_14_2 : Cond.fieldLink RX6 194 "WallsOfPrisonersModel" "ofNumber" "I" ∈ wsL_law := zs14 _ (List.mem_of_getElem? (i := 2) rfl)
theorem w_14_21 : Cond.fieldLink RX6 145 "WallsOfPrisonersModel" "tokenAt" "I" ∈ wsL_law := zs14 _ (List.mem_of_getElem? (i := 21) rfl)
theorem w_14_22 : Cond.constantLong RX6 151 (97) ∈ wsL_law := zs14 _ (List.mem_of_getElem? (i := 22) rfl)
theorem w_14_23 : Cond.constantLong RX6 153 (122) ∈ wsL_law := zs14 _ (List.mem_of_getElem? (i := 23) rfl)
theorem w_14_3 : Cond.fieldLink RX6 197 "WallsOfPrisonersModel" "ofHour" "I" ∈ wsL_law := zs14 _ (List.mem_of_getElem? (i := 3) rfl)
theorem w_14_4 : Cond.fieldLink RX6 200 "WallsOfPrisonersModel" "ofCold" "I" ∈ wsL_law := zs14 _ (List.mem_of_getElem? (i := 4) rfl)
theorem w_14_5 : Cond.fieldLink RX6 203 "WallsOfPrisonersModel" "ofMany" "I" ∈ wsL_law := zs14 _ (List.mem_of_getElem? (i := 5) rfl)
theorem w_14_6 : Cond.fieldLink RX6 108 "WallsOfPrisonersModel" "rule" "I" ∈ wsL_law := zs14 _ (List.mem_of_getElem? (i := 6) rfl)
theorem w_15_0 : Cond.constantLong RX6 155 (48) ∈ wsL_law := zs15 _ (List.mem_of_getElem? (i := 0) rfl)
theorem w_15_1 : Cond.constantLong RX6 157 (57) ∈ wsL_law := zs15 _ (List.mem_of_getElem? (i := 1) rfl)
theorem w_15_2 : Cond.fieldLink RX6 159 "WallsOfPrisonersModel" "tokenWorth" "J" ∈ wsL_law := zs15 _ (List.mem_of_getElem? (i := 2) rfl)
theorem w_15_3 : Cond.constantLong RX6 163 (10) ∈ wsL_law := zs15 _ (List.mem_of_getElem? (i := 3) rfl)
theorem w_16_0 : Cond.fieldLink RX6 169 "WallsOfPrisonersModel" "fault" "I" ∈ wsL_law := zs16 _ (List.mem_of_getElem? (i := 0) rfl)
theorem w_16_9 : Cond.constantLong RX6 226 (43) ∈ wsL_law := zs16 _ (List.mem_of_getElem? (i := 9) rfl)
theorem w_17_10 : Cond.constantLong RX6 234 (60) ∈ wsL_law := zs17 _ (List.mem_of_getElem? (i := 10) rfl)
theorem w_18_14 : Cond.fieldLink RX0 38 "WallsOfPrisoners$Marsh" "standing" "I" ∈ wsL_law := zs18 _ (List.mem_of_getElem? (i := 14) rfl)
theorem w_18_23 : Cond.constantLong RX6 111 (5) ∈ wsL_law := zs18 _ (List.mem_of_getElem? (i := 23) rfl)
theorem w_19_0 : Cond.constantLong RX6 113 (9) ∈ wsL_law := zs19 _ (List.mem_of_getElem? (i := 0) rfl)
theorem w_19_1 : Cond.constantLong RX6 115 (99) ∈ wsL_law := zs19 _ (List.mem_of_getElem? (i := 1) rfl)
theorem w_19_18 : Cond.fieldLink RX4 28 "WallsOfPrisoners$Marsh" "rule" "I" ∈ wsL_law := zs19 _ (List.mem_of_getElem? (i := 18) rfl)
theorem w_19_19 : Cond.methodLink RX4 33 Lib.Math.min.name ∈ wsL_law := zs19 _ (List.mem_of_getElem? (i := 19) rfl)
theorem w_19_20 : Cond.static Lib.Math.min.name ∈ wsL_law := zs19 _ (List.mem_of_getElem? (i := 20) rfl)
theorem w_19_21 : Cond.initialized "java/lang/Math" ∈ wsL_law := zs19 _ (List.mem_of_getElem? (i := 21) rfl)
theorem w_19_22 : Cond.code Lib.Math.min.name Lib.Math.min.code 2 (some .int) ∈ wsL_law := zs19 _ (List.mem_of_getElem? (i := 22) rfl)
theorem w_1_15 : Cond.fieldLink RX5 12 "WallsOfPrisoners" "texts" "LWallsOfPrisoners$Texts;" ∈ wsL_law := zs1 _ (List.mem_of_getElem? (i := 15) rfl)
theorem w_1_19 : Cond.fieldLink RX5 21 "WallsOfPrisoners" "reader" "LWallsOfPrisoners$Reader;" ∈ wsL_law := zs1 _ (List.mem_of_getElem? (i := 19) rfl)
theorem w_1_23 : Cond.fieldLink RX5 28 "WallsOfPrisoners" "marsh" "LWallsOfPrisoners$Marsh;" ∈ wsL_law := zs1 _ (List.mem_of_getElem? (i := 23) rfl)
theorem w_20_20 : Cond.methodLink RX0 77 Lib.Math.min.name ∈ wsL_law := zs20 _ (List.mem_of_getElem? (i := 20) rfl)
theorem w_21_12 : Cond.fieldLink RX5 227 "WallsOfPrisoners" "KIND_ABOVE" "[I" ∈ wsL_law := zs21 _ (List.mem_of_getElem? (i := 12) rfl)
theorem w_22_23 : Cond.fieldLink RX5 111 "WallsOfPrisoners$Reader" "size" "I" ∈ wsL_law := zs22 _ (List.mem_of_getElem? (i := 23) rfl)
theorem w_23_10 : Cond.fieldLink RX5 115 "WallsOfPrisoners$Texts" "many" "I" ∈ wsL_law := zs23 _ (List.mem_of_getElem? (i := 10) rfl)
theorem w_23_19 : Cond.fieldLink RX5 118 "WallsOfPrisoners$Marsh" "rule" "I" ∈ wsL_law := zs23 _ (List.mem_of_getElem? (i := 19) rfl)
theorem w_23_4 : Cond.constantLong RX6 128 (255) ∈ wsL_law := zs23 _ (List.mem_of_getElem? (i := 4) rfl)
theorem w_23_5 : Cond.fieldLink RX6 130 "WallsOfPrisonersModel" "taped" "I" ∈ wsL_law := zs23 _ (List.mem_of_getElem? (i := 5) rfl)
theorem w_24_20 : Cond.fieldLink RX5 125 "WallsOfPrisoners$Marsh" "standing" "I" ∈ wsL_law := zs24 _ (List.mem_of_getElem? (i := 20) rfl)
theorem w_26_12 : Cond.fieldLink RX5 138 "WallsOfPrisoners$Marsh" "hour" "I" ∈ wsL_law := zs26 _ (List.mem_of_getElem? (i := 12) rfl)
theorem w_26_17 : Cond.methodLink RX0 65 Lib.Math.max.name ∈ wsL_law := zs26 _ (List.mem_of_getElem? (i := 17) rfl)
theorem w_26_18 : Cond.static Lib.Math.max.name ∈ wsL_law := zs26 _ (List.mem_of_getElem? (i := 18) rfl)
theorem w_26_19 : Cond.code Lib.Math.max.name Lib.Math.max.code 2 (some .int) ∈ wsL_law := zs26 _ (List.mem_of_getElem? (i := 19) rfl)
theorem w_28_14 : Cond.constantLong RX6 285 (2) ∈ wsL_law := zs28 _ (List.mem_of_getElem? (i := 14) rfl)
theorem w_28_23 : Cond.methodLink RX0 28 arraycopyName ∈ wsL_law := zs28 _ (List.mem_of_getElem? (i := 23) rfl)
theorem w_29_0 : Cond.native arraycopyName ∈ wsL_law := zs29 _ (List.mem_of_getElem? (i := 0) rfl)
theorem w_29_1 : Cond.static arraycopyName ∈ wsL_law := zs29 _ (List.mem_of_getElem? (i := 1) rfl)
theorem w_29_2 : Cond.initialized "java/lang/System" ∈ wsL_law := zs29 _ (List.mem_of_getElem? (i := 2) rfl)
theorem w_29_7 : Cond.constantLong RX6 287 (40) ∈ wsL_law := zs29 _ (List.mem_of_getElem? (i := 7) rfl)
theorem w_29_8 : Cond.constantLong RX6 289 (15) ∈ wsL_law := zs29 _ (List.mem_of_getElem? (i := 8) rfl)
theorem w_2_0 : Cond.fieldLink RX5 32 "WallsOfPrisoners" "thought" "LWallsOfPrisoners$Marsh;" ∈ wsL_law := zs2 _ (List.mem_of_getElem? (i := 0) rfl)
theorem w_2_1 : Cond.fieldLink RX5 35 "WallsOfPrisoners" "kept" "LWallsOfPrisoners$Marsh;" ∈ wsL_law := zs2 _ (List.mem_of_getElem? (i := 1) rfl)
theorem w_2_14 : Cond.fieldLink RX4 9 "WallsOfPrisoners$Texts" "codes" "[I" ∈ wsL_law := zs2 _ (List.mem_of_getElem? (i := 14) rfl)
theorem w_2_15 : Cond.fieldLink RX4 15 "WallsOfPrisoners$Texts" "ends" "[I" ∈ wsL_law := zs2 _ (List.mem_of_getElem? (i := 15) rfl)
theorem w_2_16 : Cond.fieldLink RX4 18 "WallsOfPrisoners$Texts" "stack" "[I" ∈ wsL_law := zs2 _ (List.mem_of_getElem? (i := 16) rfl)
theorem w_2_21 : Cond.fieldLink RX2 9 "WallsOfPrisoners$Reader" "tape" "[I" ∈ wsL_law := zs2 _ (List.mem_of_getElem? (i := 21) rfl)
theorem w_2_22 : Cond.fieldLink RX2 15 "WallsOfPrisoners$Reader" "texts" "LWallsOfPrisoners$Texts;" ∈ wsL_law := zs2 _ (List.mem_of_getElem? (i := 22) rfl)
theorem w_2_5 : Cond.fieldLink RX5 41 "WallsOfPrisoners" "orders" "LWallsOfPrisoners$Orders;" ∈ wsL_law := zs2 _ (List.mem_of_getElem? (i := 5) rfl)
theorem w_2_7 : Cond.fieldLink RX5 47 "WallsOfPrisoners" "sheets" "[LWallsOfPrisoners$Sheet;" ∈ wsL_law := zs2 _ (List.mem_of_getElem? (i := 7) rfl)
theorem w_30_10 : Cond.fieldLink RX1 24 "WallsOfPrisoners$Marsh" "standing" "I" ∈ wsL_law := zs30 _ (List.mem_of_getElem? (i := 10) rfl)
theorem w_30_11 : Cond.methodLink RX1 30 Lib.Math.min.name ∈ wsL_law := zs30 _ (List.mem_of_getElem? (i := 11) rfl)
theorem w_30_12 : Cond.fieldLink RX1 36 "WallsOfPrisoners$Orders" "standing" "I" ∈ wsL_law := zs30 _ (List.mem_of_getElem? (i := 12) rfl)
theorem w_30_13 : Cond.fieldLink RX1 37 "WallsOfPrisoners$Marsh" "ring" "[I" ∈ wsL_law := zs30 _ (List.mem_of_getElem? (i := 13) rfl)
theorem w_30_14 : Cond.methodLink RX1 38 arraycopyName ∈ wsL_law := zs30 _ (List.mem_of_getElem? (i := 14) rfl)
theorem w_30_20 : Cond.fieldLink RX1 50 "WallsOfPrisoners$Orders" "bestHard" "I" ∈ wsL_law := zs30 _ (List.mem_of_getElem? (i := 20) rfl)
theorem w_30_5 : Cond.fieldLink RX5 166 "WallsOfPrisoners$Orders" "bestHard" "I" ∈ wsL_law := zs30 _ (List.mem_of_getElem? (i := 5) rfl)
theorem w_31_13 : Cond.fieldLink RX6 297 "WallsOfPrisonersModel" "bestRow" "I" ∈ wsL_law := zs31 _ (List.mem_of_getElem? (i := 13) rfl)
theorem w_31_14 : Cond.fieldLink RX6 300 "WallsOfPrisonersModel" "bestHard" "I" ∈ wsL_law := zs31 _ (List.mem_of_getElem? (i := 14) rfl)
theorem w_32_3 : Cond.fieldLink RX5 169 "WallsOfPrisoners$Marsh" "men" "I" ∈ wsL_law := zs32 _ (List.mem_of_getElem? (i := 3) rfl)
theorem w_34_0 : Cond.constantLong RX5 175 (-4611686018427387904) ∈ wsL_law := zs34 _ (List.mem_of_getElem? (i := 0) rfl)
theorem w_34_16 : Cond.fieldLink RX5 184 "WallsOfPrisoners$Sheet" "sort" "I" ∈ wsL_law := zs34 _ (List.mem_of_getElem? (i := 16) rfl)
theorem w_34_17 : Cond.fieldLink RX5 187 "WallsOfPrisoners$Sheet" "size" "I" ∈ wsL_law := zs34 _ (List.mem_of_getElem? (i := 17) rfl)
theorem w_34_8 : Cond.constantLong RX6 312 (-4611686018427387904) ∈ wsL_law := zs34 _ (List.mem_of_getElem? (i := 8) rfl)
theorem w_35_1 : Cond.fieldLink RX0 87 "WallsOfPrisoners$Sheet" "size" "I" ∈ wsL_law := zs35 _ (List.mem_of_getElem? (i := 1) rfl)
theorem w_35_14 : Cond.constantLong RX6 321 (7) ∈ wsL_law := zs35 _ (List.mem_of_getElem? (i := 14) rfl)
theorem w_35_2 : Cond.fieldLink RX0 92 "WallsOfPrisoners$Sheet" "row" "[I" ∈ wsL_law := zs35 _ (List.mem_of_getElem? (i := 2) rfl)
theorem w_36_23 : Cond.constantLong RX6 345 (-1) ∈ wsL_law := zs36 _ (List.mem_of_getElem? (i := 23) rfl)
theorem w_36_6 : Cond.fieldLink RX3 19 "WallsOfPrisoners$Sheet" "size" "I" ∈ wsL_law := zs36 _ (List.mem_of_getElem? (i := 6) rfl)
theorem w_37_17 : Cond.constant RX6 329 (1103515245) ∈ wsL_law := zs37 _ (List.mem_of_getElem? (i := 17) rfl)
theorem w_37_8 : Cond.constant RX1 69 (1103515245) ∈ wsL_law := zs37 _ (List.mem_of_getElem? (i := 8) rfl)
theorem w_38_11 : Cond.fieldLink RX6 333 "WallsOfPrisonersModel" "sizeKept" "I" ∈ wsL_law := zs38 _ (List.mem_of_getElem? (i := 11) rfl)
theorem w_38_12 : Cond.fieldLink RX6 336 "WallsOfPrisonersModel" "hourKept" "I" ∈ wsL_law := zs38 _ (List.mem_of_getElem? (i := 12) rfl)
theorem w_38_13 : Cond.fieldLink RX6 339 "WallsOfPrisonersModel" "coldKept" "I" ∈ wsL_law := zs38 _ (List.mem_of_getElem? (i := 13) rfl)
theorem w_38_14 : Cond.fieldLink RX6 342 "WallsOfPrisonersModel" "ruleKept" "I" ∈ wsL_law := zs38 _ (List.mem_of_getElem? (i := 14) rfl)
theorem w_38_6 : Cond.fieldLink RX5 205 "WallsOfPrisoners" "isKept" "Z" ∈ wsL_law := zs38 _ (List.mem_of_getElem? (i := 6) rfl)
theorem w_3_11 : Cond.fieldLink RX1 9 "WallsOfPrisoners$Orders" "hardness" "[I" ∈ wsL_law := zs3 _ (List.mem_of_getElem? (i := 11) rfl)
theorem w_3_12 : Cond.fieldLink RX1 15 "WallsOfPrisoners$Orders" "ring" "[I" ∈ wsL_law := zs3 _ (List.mem_of_getElem? (i := 12) rfl)
theorem w_3_13 : Cond.fieldLink RX1 18 "WallsOfPrisoners$Orders" "atFirst" "[I" ∈ wsL_law := zs3 _ (List.mem_of_getElem? (i := 13) rfl)
theorem w_3_14 : Cond.fieldLink RX1 21 "WallsOfPrisoners$Orders" "best" "[I" ∈ wsL_law := zs3 _ (List.mem_of_getElem? (i := 14) rfl)
theorem w_3_18 : Cond.fieldLink RX3 9 "WallsOfPrisoners$Sheet" "row" "[I" ∈ wsL_law := zs3 _ (List.mem_of_getElem? (i := 18) rfl)
theorem w_3_19 : Cond.fieldLink RX3 15 "WallsOfPrisoners$Sheet" "sort" "I" ∈ wsL_law := zs3 _ (List.mem_of_getElem? (i := 19) rfl)
theorem w_3_3 : Cond.fieldLink RX0 9 "WallsOfPrisoners$Marsh" "kind" "[I" ∈ wsL_law := zs3 _ (List.mem_of_getElem? (i := 3) rfl)
theorem w_3_4 : Cond.fieldLink RX0 15 "WallsOfPrisoners$Marsh" "number" "[I" ∈ wsL_law := zs3 _ (List.mem_of_getElem? (i := 4) rfl)
theorem w_3_5 : Cond.fieldLink RX0 18 "WallsOfPrisoners$Marsh" "strength" "[I" ∈ wsL_law := zs3 _ (List.mem_of_getElem? (i := 5) rfl)
theorem w_3_6 : Cond.fieldLink RX0 21 "WallsOfPrisoners$Marsh" "ring" "[I" ∈ wsL_law := zs3 _ (List.mem_of_getElem? (i := 6) rfl)
theorem w_3_7 : Cond.fieldLink RX0 24 "WallsOfPrisoners$Marsh" "texts" "LWallsOfPrisoners$Texts;" ∈ wsL_law := zs3 _ (List.mem_of_getElem? (i := 7) rfl)
theorem w_40_1 : Cond.fieldLink RX5 214 "WallsOfPrisoners$Sheet" "row" "[I" ∈ wsL_law := zs40 _ (List.mem_of_getElem? (i := 1) rfl)
theorem w_40_19 : Cond.constantLong RX6 347 (6) ∈ wsL_law := zs40 _ (List.mem_of_getElem? (i := 19) rfl)
theorem w_40_2 : Cond.methodLink RX5 218 arraycopyName ∈ wsL_law := zs40 _ (List.mem_of_getElem? (i := 2) rfl)
theorem w_6_1 : Cond.fieldLink RX2 19 "WallsOfPrisoners$Reader" "size" "I" ∈ wsL_law := zs6 _ (List.mem_of_getElem? (i := 1) rfl)
theorem w_6_14 : Cond.fieldLink RX4 21 "WallsOfPrisoners$Texts" "many" "I" ∈ wsL_law := zs6 _ (List.mem_of_getElem? (i := 14) rfl)
theorem w_6_15 : Cond.fieldLink RX4 25 "WallsOfPrisoners$Texts" "written" "I" ∈ wsL_law := zs6 _ (List.mem_of_getElem? (i := 15) rfl)
theorem w_6_6 : Cond.fieldLink RX2 23 "WallsOfPrisoners$Reader" "at" "I" ∈ wsL_law := zs6 _ (List.mem_of_getElem? (i := 6) rfl)
theorem w_6_7 : Cond.fieldLink RX2 38 "WallsOfPrisoners$Reader" "token" "I" ∈ wsL_law := zs6 _ (List.mem_of_getElem? (i := 7) rfl)
theorem w_6_8 : Cond.fieldLink RX2 41 "WallsOfPrisoners$Texts" "many" "I" ∈ wsL_law := zs6 _ (List.mem_of_getElem? (i := 8) rfl)
theorem w_6_9 : Cond.fieldLink RX2 44 "WallsOfPrisoners$Reader" "start" "I" ∈ wsL_law := zs6 _ (List.mem_of_getElem? (i := 9) rfl)
theorem w_7_22 : Cond.methodLink RX2 111 yJ0_length_8abf5 ∈ wsL_law := zs7 _ (List.mem_of_getElem? (i := 22) rfl)
theorem w_7_23 : Cond.methodLink RX2 117 yJ0_charAt_5068e ∈ wsL_law := zs7 _ (List.mem_of_getElem? (i := 23) rfl)
theorem w_7_7 : Cond.fieldLink RX2 75 "WallsOfPrisoners$Reader" "worth" "I" ∈ wsL_law := zs7 _ (List.mem_of_getElem? (i := 7) rfl)
theorem lNX0_101 : z_LN RX0 101 mX5_bounded 1 := ⟨fun _ _ _ _ h => h.1, (zs1 _ (List.mem_of_getElem? (i := 2) rfl)), (zs20 _ (List.mem_of_getElem? (i := 7) rfl)), (zs20 _ (List.mem_of_getElem? (i := 6) rfl)), by decide +kernel, by decide⟩
theorem lNX0_107 : z_LN RX0 107 mX5_isUnder 2 := ⟨fun _ _ _ _ h => h.2.1, (zs1 _ (List.mem_of_getElem? (i := 2) rfl)), (zs21 _ (List.mem_of_getElem? (i := 11) rfl)), (zs21 _ (List.mem_of_getElem? (i := 10) rfl)), by decide +kernel, by decide⟩
theorem lSX2_88 : z_LS RX2 88 mX2_isDigit 1 := ⟨⟨(zs7 _ (List.mem_of_getElem? (i := 0) rfl)), (zs1 _ (List.mem_of_getElem? (i := 18) rfl)), (zs7 _ (List.mem_of_getElem? (i := 2) rfl))⟩, (zs7 _ (List.mem_of_getElem? (i := 1) rfl)), by decide +kernel, by decide⟩
theorem lSX2_94 : z_LS RX2 94 mX2_isSmall 1 := ⟨⟨(zs7 _ (List.mem_of_getElem? (i := 8) rfl)), (zs1 _ (List.mem_of_getElem? (i := 18) rfl)), (zs7 _ (List.mem_of_getElem? (i := 10) rfl))⟩, (zs7 _ (List.mem_of_getElem? (i := 9) rfl)), by decide +kernel, by decide⟩
theorem lSX2_100 : z_LS RX2 100 mX2_isSign 1 := ⟨⟨(zs8 _ (List.mem_of_getElem? (i := 0) rfl)), (zs1 _ (List.mem_of_getElem? (i := 18) rfl)), (zs8 _ (List.mem_of_getElem? (i := 2) rfl))⟩, (zs8 _ (List.mem_of_getElem? (i := 1) rfl)), by decide +kernel, by decide⟩
theorem lSX2_103 : z_LS RX2 103 mX2_word 1 := ⟨⟨(zs7 _ (List.mem_of_getElem? (i := 15) rfl)), (zs1 _ (List.mem_of_getElem? (i := 18) rfl)), (zs7 _ (List.mem_of_getElem? (i := 17) rfl))⟩, (zs7 _ (List.mem_of_getElem? (i := 16) rfl)), by decide +kernel, by decide⟩
theorem lSX4_43 : z_LS RX4 43 mX4_done 3 := ⟨⟨(zs20 _ (List.mem_of_getElem? (i := 3) rfl)), (zs1 _ (List.mem_of_getElem? (i := 14) rfl)), (zs20 _ (List.mem_of_getElem? (i := 5) rfl))⟩, (zs20 _ (List.mem_of_getElem? (i := 4) rfl)), by decide +kernel, by decide⟩
theorem lSX5_71 : z_LS RX5 71 mX5_greatest 1 := ⟨⟨(zs11 _ (List.mem_of_getElem? (i := 8) rfl)), (zs1 _ (List.mem_of_getElem? (i := 2) rfl)), (zs11 _ (List.mem_of_getElem? (i := 10) rfl))⟩, (zs11 _ (List.mem_of_getElem? (i := 9) rfl)), by decide +kernel, by decide⟩
theorem lSX5_177 : z_LS RX5 177 mX5_lowestTerm 3 := ⟨⟨(zs34 _ (List.mem_of_getElem? (i := 1) rfl)), (zs1 _ (List.mem_of_getElem? (i := 2) rfl)), (zs34 _ (List.mem_of_getElem? (i := 3) rfl))⟩, (zs34 _ (List.mem_of_getElem? (i := 2) rfl)), by decide +kernel, by decide⟩
theorem lSX5_181 : z_LS RX5 181 mX5_isSheet 1 := ⟨⟨(zs34 _ (List.mem_of_getElem? (i := 18) rfl)), (zs1 _ (List.mem_of_getElem? (i := 2) rfl)), (zs34 _ (List.mem_of_getElem? (i := 20) rfl))⟩, (zs34 _ (List.mem_of_getElem? (i := 19) rfl)), by decide +kernel, by decide⟩
theorem lSX5_224 : z_LS RX5 224 mX5_isUnder 2 := ⟨⟨(zs41 _ (List.mem_of_getElem? (i := 1) rfl)), (zs1 _ (List.mem_of_getElem? (i := 2) rfl)), (zs21 _ (List.mem_of_getElem? (i := 11) rfl))⟩, (zs21 _ (List.mem_of_getElem? (i := 10) rfl)), by decide +kernel, by decide⟩
theorem lSX5_230 : z_LS RX5 230 mX5_traitReadBack 1 := ⟨⟨(zs35 _ (List.mem_of_getElem? (i := 7) rfl)), (zs1 _ (List.mem_of_getElem? (i := 2) rfl)), (zs35 _ (List.mem_of_getElem? (i := 9) rfl))⟩, (zs35 _ (List.mem_of_getElem? (i := 8) rfl)), by decide +kernel, by decide⟩
theorem lSX6_70 : z_LS RX6 70 mX6_in 3 := ⟨⟨(zs12 _ (List.mem_of_getElem? (i := 9) rfl)), (zs1 _ (List.mem_of_getElem? (i := 5) rfl)), (zs12 _ (List.mem_of_getElem? (i := 11) rfl))⟩, (zs12 _ (List.mem_of_getElem? (i := 10) rfl)), by decide +kernel, by decide⟩
theorem lSX6_90 : z_LS RX6 90 mX6_mostOf 1 := ⟨⟨(zs13 _ (List.mem_of_getElem? (i := 2) rfl)), (zs1 _ (List.mem_of_getElem? (i := 5) rfl)), (zs13 _ (List.mem_of_getElem? (i := 4) rfl))⟩, (zs13 _ (List.mem_of_getElem? (i := 3) rfl)), by decide +kernel, by decide⟩
theorem lSX6_246 : z_LS RX6 246 mX6_within 3 := ⟨⟨(zs17 _ (List.mem_of_getElem? (i := 15) rfl)), (zs1 _ (List.mem_of_getElem? (i := 5) rfl)), (zs17 _ (List.mem_of_getElem? (i := 17) rfl))⟩, (zs17 _ (List.mem_of_getElem? (i := 16) rfl)), by decide +kernel, by decide⟩
theorem lSX6_314 : z_LS RX6 314 mX6_lowest 3 := ⟨⟨(zs34 _ (List.mem_of_getElem? (i := 9) rfl)), (zs1 _ (List.mem_of_getElem? (i := 5) rfl)), (zs34 _ (List.mem_of_getElem? (i := 11) rfl))⟩, (zs34 _ (List.mem_of_getElem? (i := 10) rfl)), by decide +kernel, by decide⟩
theorem lSX6_318 : z_LS RX6 318 mX6_isSheet 1 := ⟨⟨(zs35 _ (List.mem_of_getElem? (i := 15) rfl)), (zs1 _ (List.mem_of_getElem? (i := 5) rfl)), (zs35 _ (List.mem_of_getElem? (i := 17) rfl))⟩, (zs35 _ (List.mem_of_getElem? (i := 16) rfl)), by decide +kernel, by decide⟩
theorem lSX6_352 : z_LS RX6 352 mX6_over 1 := ⟨⟨(zs41 _ (List.mem_of_getElem? (i := 6) rfl)), (zs1 _ (List.mem_of_getElem? (i := 5) rfl)), (zs41 _ (List.mem_of_getElem? (i := 8) rfl))⟩, (zs41 _ (List.mem_of_getElem? (i := 7) rfl)), by decide +kernel, by decide⟩
theorem lVX0_50 : z_LV RX0 50 mX0_enter 2 := ⟨⟨(zs18 _ (List.mem_of_getElem? (i := 15) rfl)), (zs1 _ (List.mem_of_getElem? (i := 22) rfl)), (zs18 _ (List.mem_of_getElem? (i := 18) rfl))⟩, (zs18 _ (List.mem_of_getElem? (i := 16) rfl)), (zs18 _ (List.mem_of_getElem? (i := 17) rfl)), by decide +kernel, by decide⟩
theorem lVX0_54 : z_LV RX0 54 mX0_has 1 := ⟨⟨(zs11 _ (List.mem_of_getElem? (i := 22) rfl)), (zs1 _ (List.mem_of_getElem? (i := 22) rfl)), (zs11 _ (List.mem_of_getElem? (i := 14) rfl))⟩, (zs11 _ (List.mem_of_getElem? (i := 12) rfl)), (zs11 _ (List.mem_of_getElem? (i := 13) rfl)), by decide +kernel, by decide⟩
theorem lVX0_58 : z_LV RX0 58 mX0_who 1 := ⟨⟨(zs20 _ (List.mem_of_getElem? (i := 21) rfl)), (zs1 _ (List.mem_of_getElem? (i := 22) rfl)), (zs20 _ (List.mem_of_getElem? (i := 11) rfl))⟩, (zs20 _ (List.mem_of_getElem? (i := 9) rfl)), (zs20 _ (List.mem_of_getElem? (i := 10) rfl)), by decide +kernel, by decide⟩
theorem lVX0_62 : z_LV RX0 62 mX0_spentBy 1 := ⟨⟨(zs26 _ (List.mem_of_getElem? (i := 20) rfl)), (zs1 _ (List.mem_of_getElem? (i := 22) rfl)), (zs19 _ (List.mem_of_getElem? (i := 13) rfl))⟩, (zs19 _ (List.mem_of_getElem? (i := 11) rfl)), (zs19 _ (List.mem_of_getElem? (i := 12) rfl)), by decide +kernel, by decide⟩
theorem lVX0_71 : z_LV RX0 71 mX0_placeBehind 1 := ⟨⟨(zs20 _ (List.mem_of_getElem? (i := 22) rfl)), (zs1 _ (List.mem_of_getElem? (i := 22) rfl)), (zs21 _ (List.mem_of_getElem? (i := 1) rfl))⟩, (zs20 _ (List.mem_of_getElem? (i := 23) rfl)), (zs21 _ (List.mem_of_getElem? (i := 0) rfl)), by decide +kernel, by decide⟩
theorem lVX0_74 : z_LV RX0 74 mX0_gripOf 2 := ⟨⟨(zs21 _ (List.mem_of_getElem? (i := 2) rfl)), (zs1 _ (List.mem_of_getElem? (i := 22) rfl)), (zs21 _ (List.mem_of_getElem? (i := 5) rfl))⟩, (zs21 _ (List.mem_of_getElem? (i := 3) rfl)), (zs21 _ (List.mem_of_getElem? (i := 4) rfl)), by decide +kernel, by decide⟩
theorem lVX0_80 : z_LV RX0 80 mX0_holds 0 := ⟨⟨(zs25 _ (List.mem_of_getElem? (i := 18) rfl)), (zs1 _ (List.mem_of_getElem? (i := 22) rfl)), (zs20 _ (List.mem_of_getElem? (i := 15) rfl))⟩, (zs20 _ (List.mem_of_getElem? (i := 13) rfl)), (zs20 _ (List.mem_of_getElem? (i := 14) rfl)), by decide +kernel, by decide⟩
theorem lVX0_84 : z_LV RX0 84 mX0_holdFrom 1 := ⟨⟨(zs25 _ (List.mem_of_getElem? (i := 19) rfl)), (zs1 _ (List.mem_of_getElem? (i := 22) rfl)), (zs20 _ (List.mem_of_getElem? (i := 19) rfl))⟩, (zs20 _ (List.mem_of_getElem? (i := 17) rfl)), (zs20 _ (List.mem_of_getElem? (i := 18) rfl)), by decide +kernel, by decide⟩
theorem lVX0_95 : z_LV RX0 95 mX4_value 4 := ⟨⟨(zs19 _ (List.mem_of_getElem? (i := 14) rfl)), (zs1 _ (List.mem_of_getElem? (i := 14) rfl)), (zs19 _ (List.mem_of_getElem? (i := 17) rfl))⟩, (zs19 _ (List.mem_of_getElem? (i := 15) rfl)), (zs19 _ (List.mem_of_getElem? (i := 16) rfl)), by decide +kernel, by decide⟩
theorem lVX0_104 : z_LV RX0 104 mX0_asBrother 2 := ⟨⟨(zs21 _ (List.mem_of_getElem? (i := 6) rfl)), (zs1 _ (List.mem_of_getElem? (i := 22) rfl)), (zs21 _ (List.mem_of_getElem? (i := 9) rfl))⟩, (zs21 _ (List.mem_of_getElem? (i := 7) rfl)), (zs21 _ (List.mem_of_getElem? (i := 8) rfl)), by decide +kernel, by decide⟩
theorem lVX1_44 : z_LV RX1 44 mX0_gripOf 2 := ⟨⟨(zs30 _ (List.mem_of_getElem? (i := 15) rfl)), (zs1 _ (List.mem_of_getElem? (i := 22) rfl)), (zs21 _ (List.mem_of_getElem? (i := 5) rfl))⟩, (zs21 _ (List.mem_of_getElem? (i := 3) rfl)), (zs21 _ (List.mem_of_getElem? (i := 4) rfl)), by decide +kernel, by decide⟩
theorem lVX1_47 : z_LV RX1 47 mX1_between 2 := ⟨⟨(zs31 _ (List.mem_of_getElem? (i := 1) rfl)), (zs2 _ (List.mem_of_getElem? (i := 4) rfl)), (zs31 _ (List.mem_of_getElem? (i := 4) rfl))⟩, (zs31 _ (List.mem_of_getElem? (i := 2) rfl)), (zs31 _ (List.mem_of_getElem? (i := 3) rfl)), by decide +kernel, by decide⟩
theorem lVX1_53 : z_LV RX1 53 mX1_seekFrom 3 := ⟨⟨(zs30 _ (List.mem_of_getElem? (i := 21) rfl)), (zs2 _ (List.mem_of_getElem? (i := 4) rfl)), (zs31 _ (List.mem_of_getElem? (i := 0) rfl))⟩, (zs30 _ (List.mem_of_getElem? (i := 22) rfl)), (zs30 _ (List.mem_of_getElem? (i := 23) rfl)), by decide +kernel, by decide⟩
theorem lVX1_57 : z_LV RX1 57 mX1_closesBy 1 := ⟨⟨(zs33 _ (List.mem_of_getElem? (i := 0) rfl)), (zs2 _ (List.mem_of_getElem? (i := 4) rfl)), (zs33 _ (List.mem_of_getElem? (i := 3) rfl))⟩, (zs33 _ (List.mem_of_getElem? (i := 1) rfl)), (zs33 _ (List.mem_of_getElem? (i := 2) rfl)), by decide +kernel, by decide⟩
theorem lVX1_61 : z_LV RX1 61 mX1_weakestNow 0 := ⟨⟨(zs33 _ (List.mem_of_getElem? (i := 4) rfl)), (zs2 _ (List.mem_of_getElem? (i := 4) rfl)), (zs33 _ (List.mem_of_getElem? (i := 7) rfl))⟩, (zs33 _ (List.mem_of_getElem? (i := 5) rfl)), (zs33 _ (List.mem_of_getElem? (i := 6) rfl)), by decide +kernel, by decide⟩
theorem lVX1_65 : z_LV RX1 65 mX1_change 2 := ⟨⟨(zs33 _ (List.mem_of_getElem? (i := 8) rfl)), (zs2 _ (List.mem_of_getElem? (i := 4) rfl)), (zs33 _ (List.mem_of_getElem? (i := 11) rfl))⟩, (zs33 _ (List.mem_of_getElem? (i := 9) rfl)), (zs33 _ (List.mem_of_getElem? (i := 10) rfl)), by decide +kernel, by decide⟩
theorem lVX2_26 : z_LV RX2 26 mX4_begin 0 := ⟨⟨(zs6 _ (List.mem_of_getElem? (i := 10) rfl)), (zs1 _ (List.mem_of_getElem? (i := 14) rfl)), (zs6 _ (List.mem_of_getElem? (i := 13) rfl))⟩, (zs6 _ (List.mem_of_getElem? (i := 11) rfl)), (zs6 _ (List.mem_of_getElem? (i := 12) rfl)), by decide +kernel, by decide⟩
theorem lVX2_31 : z_LV RX2 31 mX2_advance 0 := ⟨⟨(zs6 _ (List.mem_of_getElem? (i := 16) rfl)), (zs1 _ (List.mem_of_getElem? (i := 18) rfl)), (zs6 _ (List.mem_of_getElem? (i := 19) rfl))⟩, (zs6 _ (List.mem_of_getElem? (i := 17) rfl)), (zs6 _ (List.mem_of_getElem? (i := 18) rfl)), by decide +kernel, by decide⟩
theorem lVX2_34 : z_LV RX2 34 mX2_readPart 1 := ⟨⟨(zs8 _ (List.mem_of_getElem? (i := 3) rfl)), (zs1 _ (List.mem_of_getElem? (i := 18) rfl)), (zs8 _ (List.mem_of_getElem? (i := 6) rfl))⟩, (zs8 _ (List.mem_of_getElem? (i := 4) rfl)), (zs8 _ (List.mem_of_getElem? (i := 5) rfl)), by decide +kernel, by decide⟩
theorem lVX2_47 : z_LV RX2 47 mX2_readEither 1 := ⟨⟨(zs8 _ (List.mem_of_getElem? (i := 7) rfl)), (zs1 _ (List.mem_of_getElem? (i := 18) rfl)), (zs8 _ (List.mem_of_getElem? (i := 10) rfl))⟩, (zs8 _ (List.mem_of_getElem? (i := 8) rfl)), (zs8 _ (List.mem_of_getElem? (i := 9) rfl)), by decide +kernel, by decide⟩
theorem lVX2_50 : z_LV RX2 50 mX4_endPart 1 := ⟨⟨(zs9 _ (List.mem_of_getElem? (i := 23) rfl)), (zs1 _ (List.mem_of_getElem? (i := 14) rfl)), (zs10 _ (List.mem_of_getElem? (i := 2) rfl))⟩, (zs10 _ (List.mem_of_getElem? (i := 0) rfl)), (zs10 _ (List.mem_of_getElem? (i := 1) rfl)), by decide +kernel, by decide⟩
theorem lVX2_54 : z_LV RX2 54 mX2_readBoth 1 := ⟨⟨(zs8 _ (List.mem_of_getElem? (i := 11) rfl)), (zs1 _ (List.mem_of_getElem? (i := 18) rfl)), (zs8 _ (List.mem_of_getElem? (i := 18) rfl))⟩, (zs8 _ (List.mem_of_getElem? (i := 12) rfl)), (zs8 _ (List.mem_of_getElem? (i := 13) rfl)), by decide +kernel, by decide⟩
theorem lVX2_57 : z_LV RX2 57 mX4_put 1 := ⟨⟨(zs8 _ (List.mem_of_getElem? (i := 14) rfl)), (zs1 _ (List.mem_of_getElem? (i := 14) rfl)), (zs8 _ (List.mem_of_getElem? (i := 17) rfl))⟩, (zs8 _ (List.mem_of_getElem? (i := 15) rfl)), (zs8 _ (List.mem_of_getElem? (i := 16) rfl)), by decide +kernel, by decide⟩
theorem lVX2_60 : z_LV RX2 60 mX2_readDenial 1 := ⟨⟨(zs8 _ (List.mem_of_getElem? (i := 19) rfl)), (zs1 _ (List.mem_of_getElem? (i := 18) rfl)), (zs9 _ (List.mem_of_getElem? (i := 3) rfl))⟩, (zs8 _ (List.mem_of_getElem? (i := 20) rfl)), (zs8 _ (List.mem_of_getElem? (i := 21) rfl)), by decide +kernel, by decide⟩
theorem lVX2_63 : z_LV RX2 63 mX2_readComparison 1 := ⟨⟨(zs9 _ (List.mem_of_getElem? (i := 4) rfl)), (zs1 _ (List.mem_of_getElem? (i := 18) rfl)), (zs8 _ (List.mem_of_getElem? (i := 23) rfl))⟩, (zs9 _ (List.mem_of_getElem? (i := 5) rfl)), (zs9 _ (List.mem_of_getElem? (i := 6) rfl)), by decide +kernel, by decide⟩
theorem lVX2_66 : z_LV RX2 66 mX2_readSum 1 := ⟨⟨(zs9 _ (List.mem_of_getElem? (i := 0) rfl)), (zs1 _ (List.mem_of_getElem? (i := 18) rfl)), (zs9 _ (List.mem_of_getElem? (i := 18) rfl))⟩, (zs9 _ (List.mem_of_getElem? (i := 1) rfl)), (zs9 _ (List.mem_of_getElem? (i := 2) rfl)), by decide +kernel, by decide⟩
theorem lVX2_69 : z_LV RX2 69 mX2_readTerm 1 := ⟨⟨(zs9 _ (List.mem_of_getElem? (i := 19) rfl)), (zs1 _ (List.mem_of_getElem? (i := 18) rfl)), (zs9 _ (List.mem_of_getElem? (i := 22) rfl))⟩, (zs9 _ (List.mem_of_getElem? (i := 20) rfl)), (zs9 _ (List.mem_of_getElem? (i := 21) rfl)), by decide +kernel, by decide⟩
theorem lVX2_72 : z_LV RX2 72 mX2_readOne 1 := ⟨⟨(zs9 _ (List.mem_of_getElem? (i := 8) rfl)), (zs1 _ (List.mem_of_getElem? (i := 18) rfl)), (zs9 _ (List.mem_of_getElem? (i := 11) rfl))⟩, (zs9 _ (List.mem_of_getElem? (i := 9) rfl)), (zs9 _ (List.mem_of_getElem? (i := 10) rfl)), by decide +kernel, by decide⟩
theorem lVX2_78 : z_LV RX2 78 mX2_readNegation 1 := ⟨⟨(zs9 _ (List.mem_of_getElem? (i := 12) rfl)), (zs1 _ (List.mem_of_getElem? (i := 18) rfl)), (zs9 _ (List.mem_of_getElem? (i := 7) rfl))⟩, (zs9 _ (List.mem_of_getElem? (i := 13) rfl)), (zs9 _ (List.mem_of_getElem? (i := 14) rfl)), by decide +kernel, by decide⟩
theorem lVX2_81 : z_LV RX2 81 mX2_readBrackets 1 := ⟨⟨(zs9 _ (List.mem_of_getElem? (i := 15) rfl)), (zs1 _ (List.mem_of_getElem? (i := 18) rfl)), (zs8 _ (List.mem_of_getElem? (i := 22) rfl))⟩, (zs9 _ (List.mem_of_getElem? (i := 16) rfl)), (zs9 _ (List.mem_of_getElem? (i := 17) rfl)), by decide +kernel, by decide⟩
theorem lVX2_84 : z_LV RX2 84 mX2_letterAt 1 := ⟨⟨(zs6 _ (List.mem_of_getElem? (i := 20) rfl)), (zs1 _ (List.mem_of_getElem? (i := 18) rfl)), (zs6 _ (List.mem_of_getElem? (i := 23) rfl))⟩, (zs6 _ (List.mem_of_getElem? (i := 21) rfl)), (zs6 _ (List.mem_of_getElem? (i := 22) rfl)), by decide +kernel, by decide⟩
theorem lVX2_91 : z_LV RX2 91 mX2_readDigits 0 := ⟨⟨(zs7 _ (List.mem_of_getElem? (i := 3) rfl)), (zs1 _ (List.mem_of_getElem? (i := 18) rfl)), (zs7 _ (List.mem_of_getElem? (i := 6) rfl))⟩, (zs7 _ (List.mem_of_getElem? (i := 4) rfl)), (zs7 _ (List.mem_of_getElem? (i := 5) rfl)), by decide +kernel, by decide⟩
theorem lVX2_97 : z_LV RX2 97 mX2_readWord 0 := ⟨⟨(zs7 _ (List.mem_of_getElem? (i := 11) rfl)), (zs1 _ (List.mem_of_getElem? (i := 18) rfl)), (zs7 _ (List.mem_of_getElem? (i := 14) rfl))⟩, (zs7 _ (List.mem_of_getElem? (i := 12) rfl)), (zs7 _ (List.mem_of_getElem? (i := 13) rfl)), by decide +kernel, by decide⟩
theorem lVX2_107 : z_LV RX2 107 mX2_isHere 1 := ⟨⟨(zs7 _ (List.mem_of_getElem? (i := 18) rfl)), (zs1 _ (List.mem_of_getElem? (i := 18) rfl)), (zs7 _ (List.mem_of_getElem? (i := 21) rfl))⟩, (zs7 _ (List.mem_of_getElem? (i := 19) rfl)), (zs7 _ (List.mem_of_getElem? (i := 20) rfl)), by decide +kernel, by decide⟩
theorem lVX3_22 : z_LV RX3 22 mX3_has 1 := ⟨⟨(zs36 _ (List.mem_of_getElem? (i := 11) rfl)), (zs2 _ (List.mem_of_getElem? (i := 9) rfl)), (zs36 _ (List.mem_of_getElem? (i := 14) rfl))⟩, (zs36 _ (List.mem_of_getElem? (i := 12) rfl)), (zs36 _ (List.mem_of_getElem? (i := 13) rfl)), by decide +kernel, by decide⟩
theorem lVX4_39 : z_LV RX4 39 mX0_named 3 := ⟨⟨(zs19 _ (List.mem_of_getElem? (i := 23) rfl)), (zs1 _ (List.mem_of_getElem? (i := 22) rfl)), (zs20 _ (List.mem_of_getElem? (i := 2) rfl))⟩, (zs20 _ (List.mem_of_getElem? (i := 0) rfl)), (zs20 _ (List.mem_of_getElem? (i := 1) rfl)), by decide +kernel, by decide⟩
theorem lVX5_64 : z_LV RX5 64 mX2_add 1 := ⟨⟨(zs5 _ (List.mem_of_getElem? (i := 21) rfl)), (zs1 _ (List.mem_of_getElem? (i := 18) rfl)), (zs6 _ (List.mem_of_getElem? (i := 0) rfl))⟩, (zs5 _ (List.mem_of_getElem? (i := 22) rfl)), (zs5 _ (List.mem_of_getElem? (i := 23) rfl)), by decide +kernel, by decide⟩
theorem lVX5_68 : z_LV RX5 68 mX2_read 0 := ⟨⟨(zs6 _ (List.mem_of_getElem? (i := 2) rfl)), (zs1 _ (List.mem_of_getElem? (i := 18) rfl)), (zs6 _ (List.mem_of_getElem? (i := 5) rfl))⟩, (zs6 _ (List.mem_of_getElem? (i := 3) rfl)), (zs6 _ (List.mem_of_getElem? (i := 4) rfl)), by decide +kernel, by decide⟩
theorem lVX5_75 : z_LV RX5 75 mX0_has 1 := ⟨⟨(zs11 _ (List.mem_of_getElem? (i := 11) rfl)), (zs1 _ (List.mem_of_getElem? (i := 22) rfl)), (zs11 _ (List.mem_of_getElem? (i := 14) rfl))⟩, (zs11 _ (List.mem_of_getElem? (i := 12) rfl)), (zs11 _ (List.mem_of_getElem? (i := 13) rfl)), by decide +kernel, by decide⟩
theorem lVX5_78 : z_LV RX5 78 mX0_trait 2 := ⟨⟨(zs11 _ (List.mem_of_getElem? (i := 16) rfl)), (zs1 _ (List.mem_of_getElem? (i := 22) rfl)), (zs11 _ (List.mem_of_getElem? (i := 19) rfl))⟩, (zs11 _ (List.mem_of_getElem? (i := 17) rfl)), (zs11 _ (List.mem_of_getElem? (i := 18) rfl)), by decide +kernel, by decide⟩
theorem lVX5_82 : z_LV RX5 82 mX0_suppose 3 := ⟨⟨(zs11 _ (List.mem_of_getElem? (i := 23) rfl)), (zs1 _ (List.mem_of_getElem? (i := 22) rfl)), (zs12 _ (List.mem_of_getElem? (i := 2) rfl))⟩, (zs12 _ (List.mem_of_getElem? (i := 0) rfl)), (zs12 _ (List.mem_of_getElem? (i := 1) rfl)), by decide +kernel, by decide⟩
theorem lVX5_86 : z_LV RX5 86 mX0_join 3 := ⟨⟨(zs18 _ (List.mem_of_getElem? (i := 10) rfl)), (zs1 _ (List.mem_of_getElem? (i := 22) rfl)), (zs18 _ (List.mem_of_getElem? (i := 13) rfl))⟩, (zs18 _ (List.mem_of_getElem? (i := 11) rfl)), (zs18 _ (List.mem_of_getElem? (i := 12) rfl)), by decide +kernel, by decide⟩
theorem lVX5_90 : z_LV RX5 90 mX0_placeOf 1 := ⟨⟨(zs19 _ (List.mem_of_getElem? (i := 6) rfl)), (zs1 _ (List.mem_of_getElem? (i := 22) rfl)), (zs19 _ (List.mem_of_getElem? (i := 9) rfl))⟩, (zs19 _ (List.mem_of_getElem? (i := 7) rfl)), (zs19 _ (List.mem_of_getElem? (i := 8) rfl)), by decide +kernel, by decide⟩
theorem lVX5_93 : z_LV RX5 93 mX0_spentBy 1 := ⟨⟨(zs19 _ (List.mem_of_getElem? (i := 10) rfl)), (zs1 _ (List.mem_of_getElem? (i := 22) rfl)), (zs19 _ (List.mem_of_getElem? (i := 13) rfl))⟩, (zs19 _ (List.mem_of_getElem? (i := 11) rfl)), (zs19 _ (List.mem_of_getElem? (i := 12) rfl)), by decide +kernel, by decide⟩
theorem lVX5_96 : z_LV RX5 96 mX0_who 1 := ⟨⟨(zs20 _ (List.mem_of_getElem? (i := 8) rfl)), (zs1 _ (List.mem_of_getElem? (i := 22) rfl)), (zs20 _ (List.mem_of_getElem? (i := 11) rfl))⟩, (zs20 _ (List.mem_of_getElem? (i := 9) rfl)), (zs20 _ (List.mem_of_getElem? (i := 10) rfl)), by decide +kernel, by decide⟩
theorem lVX5_99 : z_LV RX5 99 mX0_holds 0 := ⟨⟨(zs20 _ (List.mem_of_getElem? (i := 12) rfl)), (zs1 _ (List.mem_of_getElem? (i := 22) rfl)), (zs20 _ (List.mem_of_getElem? (i := 15) rfl))⟩, (zs20 _ (List.mem_of_getElem? (i := 13) rfl)), (zs20 _ (List.mem_of_getElem? (i := 14) rfl)), by decide +kernel, by decide⟩
theorem lVX5_102 : z_LV RX5 102 mX0_holdFrom 1 := ⟨⟨(zs20 _ (List.mem_of_getElem? (i := 16) rfl)), (zs1 _ (List.mem_of_getElem? (i := 22) rfl)), (zs20 _ (List.mem_of_getElem? (i := 19) rfl))⟩, (zs20 _ (List.mem_of_getElem? (i := 17) rfl)), (zs20 _ (List.mem_of_getElem? (i := 18) rfl)), by decide +kernel, by decide⟩
theorem lVX5_105 : z_LV RX5 105 mX0_gripOf 2 := ⟨⟨(zs21 _ (List.mem_of_getElem? (i := 18) rfl)), (zs1 _ (List.mem_of_getElem? (i := 22) rfl)), (zs21 _ (List.mem_of_getElem? (i := 5) rfl))⟩, (zs21 _ (List.mem_of_getElem? (i := 3) rfl)), (zs21 _ (List.mem_of_getElem? (i := 4) rfl)), by decide +kernel, by decide⟩
theorem lVX5_108 : z_LV RX5 108 mX0_handedOn 2 := ⟨⟨(zs22 _ (List.mem_of_getElem? (i := 7) rfl)), (zs1 _ (List.mem_of_getElem? (i := 22) rfl)), (zs22 _ (List.mem_of_getElem? (i := 10) rfl))⟩, (zs22 _ (List.mem_of_getElem? (i := 8) rfl)), (zs22 _ (List.mem_of_getElem? (i := 9) rfl)), by decide +kernel, by decide⟩
theorem lVX5_121 : z_LV RX5 121 mX0_leave 1 := ⟨⟨(zs24 _ (List.mem_of_getElem? (i := 4) rfl)), (zs1 _ (List.mem_of_getElem? (i := 22) rfl)), (zs24 _ (List.mem_of_getElem? (i := 7) rfl))⟩, (zs24 _ (List.mem_of_getElem? (i := 5) rfl)), (zs24 _ (List.mem_of_getElem? (i := 6) rfl)), by decide +kernel, by decide⟩
theorem lVX5_128 : z_LV RX5 128 mX0_enter 2 := ⟨⟨(zs24 _ (List.mem_of_getElem? (i := 21) rfl)), (zs1 _ (List.mem_of_getElem? (i := 22) rfl)), (zs18 _ (List.mem_of_getElem? (i := 18) rfl))⟩, (zs18 _ (List.mem_of_getElem? (i := 16) rfl)), (zs18 _ (List.mem_of_getElem? (i := 17) rfl)), by decide +kernel, by decide⟩
theorem lVX5_132 : z_LV RX5 132 mX0_exchange 2 := ⟨⟨(zs25 _ (List.mem_of_getElem? (i := 10) rfl)), (zs1 _ (List.mem_of_getElem? (i := 22) rfl)), (zs25 _ (List.mem_of_getElem? (i := 13) rfl))⟩, (zs25 _ (List.mem_of_getElem? (i := 11) rfl)), (zs25 _ (List.mem_of_getElem? (i := 12) rfl)), by decide +kernel, by decide⟩
theorem lVX5_135 : z_LV RX5 135 mX0_weakest 0 := ⟨⟨(zs25 _ (List.mem_of_getElem? (i := 14) rfl)), (zs1 _ (List.mem_of_getElem? (i := 22) rfl)), (zs25 _ (List.mem_of_getElem? (i := 17) rfl))⟩, (zs25 _ (List.mem_of_getElem? (i := 15) rfl)), (zs25 _ (List.mem_of_getElem? (i := 16) rfl)), by decide +kernel, by decide⟩
theorem lVX5_141 : z_LV RX5 141 mX0_passHour 0 := ⟨⟨(zs26 _ (List.mem_of_getElem? (i := 13) rfl)), (zs1 _ (List.mem_of_getElem? (i := 22) rfl)), (zs26 _ (List.mem_of_getElem? (i := 16) rfl))⟩, (zs26 _ (List.mem_of_getElem? (i := 14) rfl)), (zs26 _ (List.mem_of_getElem? (i := 15) rfl)), by decide +kernel, by decide⟩
theorem lVX5_144 : z_LV RX5 144 mX0_gates 0 := ⟨⟨(zs27 _ (List.mem_of_getElem? (i := 9) rfl)), (zs1 _ (List.mem_of_getElem? (i := 22) rfl)), (zs27 _ (List.mem_of_getElem? (i := 12) rfl))⟩, (zs27 _ (List.mem_of_getElem? (i := 10) rfl)), (zs27 _ (List.mem_of_getElem? (i := 11) rfl)), by decide +kernel, by decide⟩
theorem lVX5_147 : z_LV RX5 147 mX0_firstGate 0 := ⟨⟨(zs27 _ (List.mem_of_getElem? (i := 13) rfl)), (zs1 _ (List.mem_of_getElem? (i := 22) rfl)), (zs27 _ (List.mem_of_getElem? (i := 16) rfl))⟩, (zs27 _ (List.mem_of_getElem? (i := 14) rfl)), (zs27 _ (List.mem_of_getElem? (i := 15) rfl)), by decide +kernel, by decide⟩
theorem lVX5_150 : z_LV RX5 150 mX0_placeBehind 1 := ⟨⟨(zs28 _ (List.mem_of_getElem? (i := 9) rfl)), (zs1 _ (List.mem_of_getElem? (i := 22) rfl)), (zs21 _ (List.mem_of_getElem? (i := 1) rfl))⟩, (zs20 _ (List.mem_of_getElem? (i := 23) rfl)), (zs21 _ (List.mem_of_getElem? (i := 0) rfl)), by decide +kernel, by decide⟩
theorem lVX5_153 : z_LV RX5 153 mX0_takeFrom 1 := ⟨⟨(zs28 _ (List.mem_of_getElem? (i := 19) rfl)), (zs1 _ (List.mem_of_getElem? (i := 22) rfl)), (zs28 _ (List.mem_of_getElem? (i := 22) rfl))⟩, (zs28 _ (List.mem_of_getElem? (i := 20) rfl)), (zs28 _ (List.mem_of_getElem? (i := 21) rfl)), by decide +kernel, by decide⟩
theorem lVX5_157 : z_LV RX5 157 mX1_look 1 := ⟨⟨(zs30 _ (List.mem_of_getElem? (i := 6) rfl)), (zs2 _ (List.mem_of_getElem? (i := 4) rfl)), (zs30 _ (List.mem_of_getElem? (i := 9) rfl))⟩, (zs30 _ (List.mem_of_getElem? (i := 7) rfl)), (zs30 _ (List.mem_of_getElem? (i := 8) rfl)), by decide +kernel, by decide⟩
theorem lVX5_160 : z_LV RX5 160 mX1_seekBest 0 := ⟨⟨(zs30 _ (List.mem_of_getElem? (i := 16) rfl)), (zs2 _ (List.mem_of_getElem? (i := 4) rfl)), (zs30 _ (List.mem_of_getElem? (i := 19) rfl))⟩, (zs30 _ (List.mem_of_getElem? (i := 17) rfl)), (zs30 _ (List.mem_of_getElem? (i := 18) rfl)), by decide +kernel, by decide⟩
theorem lVX5_163 : z_LV RX5 163 mX1_bestDigits 0 := ⟨⟨(zs31 _ (List.mem_of_getElem? (i := 5) rfl)), (zs2 _ (List.mem_of_getElem? (i := 4) rfl)), (zs31 _ (List.mem_of_getElem? (i := 8) rfl))⟩, (zs31 _ (List.mem_of_getElem? (i := 6) rfl)), (zs31 _ (List.mem_of_getElem? (i := 7) rfl)), by decide +kernel, by decide⟩
theorem lVX5_172 : z_LV RX5 172 mX1_fewestChanges 0 := ⟨⟨(zs32 _ (List.mem_of_getElem? (i := 20) rfl)), (zs2 _ (List.mem_of_getElem? (i := 4) rfl)), (zs32 _ (List.mem_of_getElem? (i := 23) rfl))⟩, (zs32 _ (List.mem_of_getElem? (i := 21) rfl)), (zs32 _ (List.mem_of_getElem? (i := 22) rfl)), by decide +kernel, by decide⟩
theorem lVX5_188 : z_LV RX5 188 mX0_firstUnlike 1 := ⟨⟨(zs34 _ (List.mem_of_getElem? (i := 21) rfl)), (zs1 _ (List.mem_of_getElem? (i := 22) rfl)), (zs35 _ (List.mem_of_getElem? (i := 0) rfl))⟩, (zs34 _ (List.mem_of_getElem? (i := 22) rfl)), (zs34 _ (List.mem_of_getElem? (i := 23) rfl)), by decide +kernel, by decide⟩
theorem lVX5_192 : z_LV RX5 192 mX5_readBack 3 := ⟨⟨(zs35 _ (List.mem_of_getElem? (i := 3) rfl)), (zs1 _ (List.mem_of_getElem? (i := 2) rfl)), (zs35 _ (List.mem_of_getElem? (i := 6) rfl))⟩, (zs35 _ (List.mem_of_getElem? (i := 4) rfl)), (zs35 _ (List.mem_of_getElem? (i := 5) rfl)), by decide +kernel, by decide⟩
theorem lVX5_196 : z_LV RX5 196 mX3_become 2 := ⟨⟨(zs36 _ (List.mem_of_getElem? (i := 2) rfl)), (zs2 _ (List.mem_of_getElem? (i := 9) rfl)), (zs36 _ (List.mem_of_getElem? (i := 5) rfl))⟩, (zs36 _ (List.mem_of_getElem? (i := 3) rfl)), (zs36 _ (List.mem_of_getElem? (i := 4) rfl)), by decide +kernel, by decide⟩
theorem lVX5_199 : z_LV RX5 199 mX3_put 2 := ⟨⟨(zs36 _ (List.mem_of_getElem? (i := 7) rfl)), (zs2 _ (List.mem_of_getElem? (i := 9) rfl)), (zs36 _ (List.mem_of_getElem? (i := 10) rfl))⟩, (zs36 _ (List.mem_of_getElem? (i := 8) rfl)), (zs36 _ (List.mem_of_getElem? (i := 9) rfl)), by decide +kernel, by decide⟩
theorem lVX5_202 : z_LV RX5 202 mX1_weakestDrawn 2 := ⟨⟨(zs37 _ (List.mem_of_getElem? (i := 4) rfl)), (zs2 _ (List.mem_of_getElem? (i := 4) rfl)), (zs37 _ (List.mem_of_getElem? (i := 7) rfl))⟩, (zs37 _ (List.mem_of_getElem? (i := 5) rfl)), (zs37 _ (List.mem_of_getElem? (i := 6) rfl)), by decide +kernel, by decide⟩
theorem lVX5_209 : z_LV RX5 209 mX3_has 1 := ⟨⟨(zs39 _ (List.mem_of_getElem? (i := 16) rfl)), (zs2 _ (List.mem_of_getElem? (i := 9) rfl)), (zs36 _ (List.mem_of_getElem? (i := 14) rfl))⟩, (zs36 _ (List.mem_of_getElem? (i := 12) rfl)), (zs36 _ (List.mem_of_getElem? (i := 13) rfl)), by decide +kernel, by decide⟩
theorem lVX5_210 : z_LV RX5 210 mX3_hasRun 2 := ⟨⟨(zs40 _ (List.mem_of_getElem? (i := 3) rfl)), (zs2 _ (List.mem_of_getElem? (i := 9) rfl)), (zs40 _ (List.mem_of_getElem? (i := 6) rfl))⟩, (zs40 _ (List.mem_of_getElem? (i := 4) rfl)), (zs40 _ (List.mem_of_getElem? (i := 5) rfl)), by decide +kernel, by decide⟩
theorem lVX6_74 : z_LV RX6 74 mX6_isOne 1 := ⟨⟨(zs12 _ (List.mem_of_getElem? (i := 17) rfl)), (zs1 _ (List.mem_of_getElem? (i := 5) rfl)), (zs12 _ (List.mem_of_getElem? (i := 20) rfl))⟩, (zs12 _ (List.mem_of_getElem? (i := 18) rfl)), (zs12 _ (List.mem_of_getElem? (i := 19) rfl)), by decide +kernel, by decide⟩
theorem lVX6_81 : z_LV RX6 81 mX6_isPlace 1 := ⟨⟨(zs12 _ (List.mem_of_getElem? (i := 22) rfl)), (zs1 _ (List.mem_of_getElem? (i := 5) rfl)), (zs13 _ (List.mem_of_getElem? (i := 1) rfl))⟩, (zs12 _ (List.mem_of_getElem? (i := 23) rfl)), (zs13 _ (List.mem_of_getElem? (i := 0) rfl)), by decide +kernel, by decide⟩
theorem lVX6_86 : z_LV RX6 86 mX6_isOf 2 := ⟨⟨(zs12 _ (List.mem_of_getElem? (i := 12) rfl)), (zs1 _ (List.mem_of_getElem? (i := 5) rfl)), (zs12 _ (List.mem_of_getElem? (i := 15) rfl))⟩, (zs12 _ (List.mem_of_getElem? (i := 13) rfl)), (zs12 _ (List.mem_of_getElem? (i := 14) rfl)), by decide +kernel, by decide⟩
theorem lVX6_94 : z_LV RX6 94 mX6_told 2 := ⟨⟨(zs13 _ (List.mem_of_getElem? (i := 5) rfl)), (zs1 _ (List.mem_of_getElem? (i := 5) rfl)), (zs13 _ (List.mem_of_getElem? (i := 8) rfl))⟩, (zs13 _ (List.mem_of_getElem? (i := 6) rfl)), (zs13 _ (List.mem_of_getElem? (i := 7) rfl)), by decide +kernel, by decide⟩
theorem lVX6_98 : z_LV RX6 98 mX6_lays 3 := ⟨⟨(zs18 _ (List.mem_of_getElem? (i := 2) rfl)), (zs1 _ (List.mem_of_getElem? (i := 5) rfl)), (zs18 _ (List.mem_of_getElem? (i := 5) rfl))⟩, (zs18 _ (List.mem_of_getElem? (i := 3) rfl)), (zs18 _ (List.mem_of_getElem? (i := 4) rfl)), by decide +kernel, by decide⟩
theorem lVX6_119 : z_LV RX6 119 mX6_placeOf 1 := ⟨⟨(zs13 _ (List.mem_of_getElem? (i := 12) rfl)), (zs1 _ (List.mem_of_getElem? (i := 5) rfl)), (zs13 _ (List.mem_of_getElem? (i := 15) rfl))⟩, (zs13 _ (List.mem_of_getElem? (i := 13) rfl)), (zs13 _ (List.mem_of_getElem? (i := 14) rfl)), by decide +kernel, by decide⟩
theorem lVX6_122 : z_LV RX6 122 mX6_spentOf 1 := ⟨⟨(zs13 _ (List.mem_of_getElem? (i := 16) rfl)), (zs1 _ (List.mem_of_getElem? (i := 5) rfl)), (zs13 _ (List.mem_of_getElem? (i := 19) rfl))⟩, (zs13 _ (List.mem_of_getElem? (i := 17) rfl)), (zs13 _ (List.mem_of_getElem? (i := 18) rfl)), by decide +kernel, by decide⟩
theorem lVX6_125 : z_LV RX6 125 mX6_hold 1 := ⟨⟨(zs17 _ (List.mem_of_getElem? (i := 18) rfl)), (zs1 _ (List.mem_of_getElem? (i := 5) rfl)), (zs17 _ (List.mem_of_getElem? (i := 21) rfl))⟩, (zs17 _ (List.mem_of_getElem? (i := 19) rfl)), (zs17 _ (List.mem_of_getElem? (i := 20) rfl)), by decide +kernel, by decide⟩
theorem lVX6_142 : z_LV RX6 142 mX6_byteAt 1 := ⟨⟨(zs15 _ (List.mem_of_getElem? (i := 4) rfl)), (zs1 _ (List.mem_of_getElem? (i := 5) rfl)), (zs15 _ (List.mem_of_getElem? (i := 7) rfl))⟩, (zs15 _ (List.mem_of_getElem? (i := 5) rfl)), (zs15 _ (List.mem_of_getElem? (i := 6) rfl)), by decide +kernel, by decide⟩
theorem lVX6_172 : z_LV RX6 172 mX6_isLetter 2 := ⟨⟨(zs15 _ (List.mem_of_getElem? (i := 12) rfl)), (zs1 _ (List.mem_of_getElem? (i := 5) rfl)), (zs15 _ (List.mem_of_getElem? (i := 15) rfl))⟩, (zs15 _ (List.mem_of_getElem? (i := 13) rfl)), (zs15 _ (List.mem_of_getElem? (i := 14) rfl)), by decide +kernel, by decide⟩
theorem lVX6_178 : z_LV RX6 178 mX6_fail 0 := ⟨⟨(zs15 _ (List.mem_of_getElem? (i := 20) rfl)), (zs1 _ (List.mem_of_getElem? (i := 5) rfl)), (zs15 _ (List.mem_of_getElem? (i := 23) rfl))⟩, (zs15 _ (List.mem_of_getElem? (i := 21) rfl)), (zs15 _ (List.mem_of_getElem? (i := 22) rfl)), by decide +kernel, by decide⟩
theorem lVX6_181 : z_LV RX6 181 mX6_next 0 := ⟨⟨(zs14 _ (List.mem_of_getElem? (i := 17) rfl)), (zs1 _ (List.mem_of_getElem? (i := 5) rfl)), (zs14 _ (List.mem_of_getElem? (i := 20) rfl))⟩, (zs14 _ (List.mem_of_getElem? (i := 18) rfl)), (zs14 _ (List.mem_of_getElem? (i := 19) rfl)), by decide +kernel, by decide⟩
theorem lVX6_184 : z_LV RX6 184 mX6_isWord 8 := ⟨⟨(zs15 _ (List.mem_of_getElem? (i := 8) rfl)), (zs1 _ (List.mem_of_getElem? (i := 5) rfl)), (zs15 _ (List.mem_of_getElem? (i := 11) rfl))⟩, (zs15 _ (List.mem_of_getElem? (i := 9) rfl)), (zs15 _ (List.mem_of_getElem? (i := 10) rfl)), by decide +kernel, by decide⟩
theorem lVX6_206 : z_LV RX6 206 mX6_isSign 1 := ⟨⟨(zs16 _ (List.mem_of_getElem? (i := 13) rfl)), (zs1 _ (List.mem_of_getElem? (i := 5) rfl)), (zs16 _ (List.mem_of_getElem? (i := 16) rfl))⟩, (zs16 _ (List.mem_of_getElem? (i := 14) rfl)), (zs16 _ (List.mem_of_getElem? (i := 15) rfl)), by decide +kernel, by decide⟩
theorem lVX6_209 : z_LV RX6 209 mX6_textOpens 0 := ⟨⟨(zs16 _ (List.mem_of_getElem? (i := 18) rfl)), (zs1 _ (List.mem_of_getElem? (i := 5) rfl)), (zs16 _ (List.mem_of_getElem? (i := 21) rfl))⟩, (zs16 _ (List.mem_of_getElem? (i := 19) rfl)), (zs16 _ (List.mem_of_getElem? (i := 20) rfl)), by decide +kernel, by decide⟩
theorem lVX6_213 : z_LV RX6 213 mX6_atom 0 := ⟨⟨(zs16 _ (List.mem_of_getElem? (i := 22) rfl)), (zs1 _ (List.mem_of_getElem? (i := 5) rfl)), (zs16 _ (List.mem_of_getElem? (i := 17) rfl))⟩, (zs16 _ (List.mem_of_getElem? (i := 23) rfl)), (zs17 _ (List.mem_of_getElem? (i := 0) rfl)), by decide +kernel, by decide⟩
theorem lVX6_217 : z_LV RX6 217 mX6_either 0 := ⟨⟨(zs16 _ (List.mem_of_getElem? (i := 1) rfl)), (zs1 _ (List.mem_of_getElem? (i := 5) rfl)), (zs16 _ (List.mem_of_getElem? (i := 4) rfl))⟩, (zs16 _ (List.mem_of_getElem? (i := 2) rfl)), (zs16 _ (List.mem_of_getElem? (i := 3) rfl)), by decide +kernel, by decide⟩
theorem lVX6_220 : z_LV RX6 220 mX6_name 0 := ⟨⟨(zs17 _ (List.mem_of_getElem? (i := 1) rfl)), (zs1 _ (List.mem_of_getElem? (i := 5) rfl)), (zs17 _ (List.mem_of_getElem? (i := 4) rfl))⟩, (zs17 _ (List.mem_of_getElem? (i := 2) rfl)), (zs17 _ (List.mem_of_getElem? (i := 3) rfl)), by decide +kernel, by decide⟩
theorem lVX6_223 : z_LV RX6 223 mX6_term 0 := ⟨⟨(zs16 _ (List.mem_of_getElem? (i := 10) rfl)), (zs1 _ (List.mem_of_getElem? (i := 5) rfl)), (zs17 _ (List.mem_of_getElem? (i := 14) rfl))⟩, (zs16 _ (List.mem_of_getElem? (i := 11) rfl)), (zs16 _ (List.mem_of_getElem? (i := 12) rfl)), by decide +kernel, by decide⟩
theorem lVX6_228 : z_LV RX6 228 mX6_not 0 := ⟨⟨(zs17 _ (List.mem_of_getElem? (i := 6) rfl)), (zs1 _ (List.mem_of_getElem? (i := 5) rfl)), (zs17 _ (List.mem_of_getElem? (i := 9) rfl))⟩, (zs17 _ (List.mem_of_getElem? (i := 7) rfl)), (zs17 _ (List.mem_of_getElem? (i := 8) rfl)), by decide +kernel, by decide⟩
theorem lVX6_231 : z_LV RX6 231 mX6_added 0 := ⟨⟨(zs17 _ (List.mem_of_getElem? (i := 11) rfl)), (zs1 _ (List.mem_of_getElem? (i := 5) rfl)), (zs16 _ (List.mem_of_getElem? (i := 8) rfl))⟩, (zs17 _ (List.mem_of_getElem? (i := 12) rfl)), (zs17 _ (List.mem_of_getElem? (i := 13) rfl)), by decide +kernel, by decide⟩
theorem lVX6_236 : z_LV RX6 236 mX6_both 0 := ⟨⟨(zs16 _ (List.mem_of_getElem? (i := 5) rfl)), (zs1 _ (List.mem_of_getElem? (i := 5) rfl)), (zs17 _ (List.mem_of_getElem? (i := 5) rfl))⟩, (zs16 _ (List.mem_of_getElem? (i := 6) rfl)), (zs16 _ (List.mem_of_getElem? (i := 7) rfl)), by decide +kernel, by decide⟩
theorem lVX6_239 : z_LV RX6 239 mX6_part 1 := ⟨⟨(zs15 _ (List.mem_of_getElem? (i := 16) rfl)), (zs1 _ (List.mem_of_getElem? (i := 5) rfl)), (zs15 _ (List.mem_of_getElem? (i := 19) rfl))⟩, (zs15 _ (List.mem_of_getElem? (i := 17) rfl)), (zs15 _ (List.mem_of_getElem? (i := 18) rfl)), by decide +kernel, by decide⟩
theorem lVX6_243 : z_LV RX6 243 mX6_read 2 := ⟨⟨(zs14 _ (List.mem_of_getElem? (i := 7) rfl)), (zs1 _ (List.mem_of_getElem? (i := 5) rfl)), (zs14 _ (List.mem_of_getElem? (i := 10) rfl))⟩, (zs14 _ (List.mem_of_getElem? (i := 8) rfl)), (zs14 _ (List.mem_of_getElem? (i := 9) rfl)), by decide +kernel, by decide⟩
theorem lVX6_250 : z_LV RX6 250 mX6_says 3 := ⟨⟨(zs13 _ (List.mem_of_getElem? (i := 20) rfl)), (zs1 _ (List.mem_of_getElem? (i := 5) rfl)), (zs13 _ (List.mem_of_getElem? (i := 23) rfl))⟩, (zs13 _ (List.mem_of_getElem? (i := 21) rfl)), (zs13 _ (List.mem_of_getElem? (i := 22) rfl)), by decide +kernel, by decide⟩
theorem lVX6_253 : z_LV RX6 253 mX6_areTwo 2 := ⟨⟨(zs21 _ (List.mem_of_getElem? (i := 23) rfl)), (zs1 _ (List.mem_of_getElem? (i := 5) rfl)), (zs22 _ (List.mem_of_getElem? (i := 2) rfl))⟩, (zs22 _ (List.mem_of_getElem? (i := 0) rfl)), (zs22 _ (List.mem_of_getElem? (i := 1) rfl)), by decide +kernel, by decide⟩
theorem lVX6_256 : z_LV RX6 256 mX6_gripsOf 2 := ⟨⟨(zs17 _ (List.mem_of_getElem? (i := 22) rfl)), (zs1 _ (List.mem_of_getElem? (i := 5) rfl)), (zs18 _ (List.mem_of_getElem? (i := 1) rfl))⟩, (zs17 _ (List.mem_of_getElem? (i := 23) rfl)), (zs18 _ (List.mem_of_getElem? (i := 0) rfl)), by decide +kernel, by decide⟩
theorem lVX6_259 : z_LV RX6 259 mX6_handsOf 2 := ⟨⟨(zs22 _ (List.mem_of_getElem? (i := 15) rfl)), (zs1 _ (List.mem_of_getElem? (i := 5) rfl)), (zs22 _ (List.mem_of_getElem? (i := 18) rfl))⟩, (zs22 _ (List.mem_of_getElem? (i := 16) rfl)), (zs22 _ (List.mem_of_getElem? (i := 17) rfl)), by decide +kernel, by decide⟩
theorem lVX6_262 : z_LV RX6 262 mX6_weakest 0 := ⟨⟨(zs26 _ (List.mem_of_getElem? (i := 4) rfl)), (zs1 _ (List.mem_of_getElem? (i := 5) rfl)), (zs26 _ (List.mem_of_getElem? (i := 7) rfl))⟩, (zs26 _ (List.mem_of_getElem? (i := 5) rfl)), (zs26 _ (List.mem_of_getElem? (i := 6) rfl)), by decide +kernel, by decide⟩
theorem lVX6_265 : z_LV RX6 265 mX6_gates 0 := ⟨⟨(zs27 _ (List.mem_of_getElem? (i := 21) rfl)), (zs1 _ (List.mem_of_getElem? (i := 5) rfl)), (zs28 _ (List.mem_of_getElem? (i := 0) rfl))⟩, (zs27 _ (List.mem_of_getElem? (i := 22) rfl)), (zs27 _ (List.mem_of_getElem? (i := 23) rfl)), by decide +kernel, by decide⟩
theorem lVX6_268 : z_LV RX6 268 mX6_firstGate 0 := ⟨⟨(zs28 _ (List.mem_of_getElem? (i := 1) rfl)), (zs1 _ (List.mem_of_getElem? (i := 5) rfl)), (zs28 _ (List.mem_of_getElem? (i := 4) rfl))⟩, (zs28 _ (List.mem_of_getElem? (i := 2) rfl)), (zs28 _ (List.mem_of_getElem? (i := 3) rfl)), by decide +kernel, by decide⟩
theorem lVX6_271 : z_LV RX6 271 mX6_closesUp 1 := ⟨⟨(zs24 _ (List.mem_of_getElem? (i := 12) rfl)), (zs1 _ (List.mem_of_getElem? (i := 5) rfl)), (zs24 _ (List.mem_of_getElem? (i := 15) rfl))⟩, (zs24 _ (List.mem_of_getElem? (i := 13) rfl)), (zs24 _ (List.mem_of_getElem? (i := 14) rfl)), by decide +kernel, by decide⟩
theorem lVX6_275 : z_LV RX6 275 mX6_stands 2 := ⟨⟨(zs25 _ (List.mem_of_getElem? (i := 2) rfl)), (zs1 _ (List.mem_of_getElem? (i := 5) rfl)), (zs25 _ (List.mem_of_getElem? (i := 5) rfl))⟩, (zs25 _ (List.mem_of_getElem? (i := 3) rfl)), (zs25 _ (List.mem_of_getElem? (i := 4) rfl)), by decide +kernel, by decide⟩
theorem lVX6_279 : z_LV RX6 279 mX6_change 2 := ⟨⟨(zs26 _ (List.mem_of_getElem? (i := 0) rfl)), (zs1 _ (List.mem_of_getElem? (i := 5) rfl)), (zs26 _ (List.mem_of_getElem? (i := 3) rfl))⟩, (zs26 _ (List.mem_of_getElem? (i := 1) rfl)), (zs26 _ (List.mem_of_getElem? (i := 2) rfl)), by decide +kernel, by decide⟩
theorem lVX6_282 : z_LV RX6 282 mX6_passes 0 := ⟨⟨(zs27 _ (List.mem_of_getElem? (i := 1) rfl)), (zs1 _ (List.mem_of_getElem? (i := 5) rfl)), (zs27 _ (List.mem_of_getElem? (i := 4) rfl))⟩, (zs27 _ (List.mem_of_getElem? (i := 2) rfl)), (zs27 _ (List.mem_of_getElem? (i := 3) rfl)), by decide +kernel, by decide⟩
theorem lVX6_291 : z_LV RX6 291 mX6_laysAside 0 := ⟨⟨(zs29 _ (List.mem_of_getElem? (i := 9) rfl)), (zs1 _ (List.mem_of_getElem? (i := 5) rfl)), (zs29 _ (List.mem_of_getElem? (i := 12) rfl))⟩, (zs29 _ (List.mem_of_getElem? (i := 10) rfl)), (zs29 _ (List.mem_of_getElem? (i := 11) rfl)), by decide +kernel, by decide⟩
theorem lVX6_294 : z_LV RX6 294 mX6_laysBack 0 := ⟨⟨(zs29 _ (List.mem_of_getElem? (i := 13) rfl)), (zs1 _ (List.mem_of_getElem? (i := 5) rfl)), (zs29 _ (List.mem_of_getElem? (i := 16) rfl))⟩, (zs29 _ (List.mem_of_getElem? (i := 14) rfl)), (zs29 _ (List.mem_of_getElem? (i := 15) rfl)), by decide +kernel, by decide⟩
theorem lVX6_303 : z_LV RX6 303 mX6_digitsOf 0 := ⟨⟨(zs31 _ (List.mem_of_getElem? (i := 19) rfl)), (zs1 _ (List.mem_of_getElem? (i := 5) rfl)), (zs31 _ (List.mem_of_getElem? (i := 22) rfl))⟩, (zs31 _ (List.mem_of_getElem? (i := 20) rfl)), (zs31 _ (List.mem_of_getElem? (i := 21) rfl)), by decide +kernel, by decide⟩
theorem lVX6_306 : z_LV RX6 306 mX6_orders 2 := ⟨⟨(zs31 _ (List.mem_of_getElem? (i := 15) rfl)), (zs1 _ (List.mem_of_getElem? (i := 5) rfl)), (zs31 _ (List.mem_of_getElem? (i := 18) rfl))⟩, (zs31 _ (List.mem_of_getElem? (i := 16) rfl)), (zs31 _ (List.mem_of_getElem? (i := 17) rfl)), by decide +kernel, by decide⟩
theorem lVX6_309 : z_LV RX6 309 mX6_shutBy 1 := ⟨⟨(zs33 _ (List.mem_of_getElem? (i := 16) rfl)), (zs1 _ (List.mem_of_getElem? (i := 5) rfl)), (zs33 _ (List.mem_of_getElem? (i := 19) rfl))⟩, (zs33 _ (List.mem_of_getElem? (i := 17) rfl)), (zs33 _ (List.mem_of_getElem? (i := 18) rfl)), by decide +kernel, by decide⟩
theorem lVX6_323 : z_LV RX6 323 mX6_firstOther 1 := ⟨⟨(zs35 _ (List.mem_of_getElem? (i := 18) rfl)), (zs1 _ (List.mem_of_getElem? (i := 5) rfl)), (zs35 _ (List.mem_of_getElem? (i := 21) rfl))⟩, (zs35 _ (List.mem_of_getElem? (i := 19) rfl)), (zs35 _ (List.mem_of_getElem? (i := 20) rfl)), by decide +kernel, by decide⟩
theorem lVX6_326 : z_LV RX6 326 mX6_sheet 3 := ⟨⟨(zs36 _ (List.mem_of_getElem? (i := 19) rfl)), (zs1 _ (List.mem_of_getElem? (i := 5) rfl)), (zs36 _ (List.mem_of_getElem? (i := 22) rfl))⟩, (zs36 _ (List.mem_of_getElem? (i := 20) rfl)), (zs36 _ (List.mem_of_getElem? (i := 21) rfl)), by decide +kernel, by decide⟩
theorem lVX6_330 : z_LV RX6 330 mX6_weakestDrawn 2 := ⟨⟨(zs37 _ (List.mem_of_getElem? (i := 13) rfl)), (zs1 _ (List.mem_of_getElem? (i := 5) rfl)), (zs37 _ (List.mem_of_getElem? (i := 16) rfl))⟩, (zs37 _ (List.mem_of_getElem? (i := 14) rfl)), (zs37 _ (List.mem_of_getElem? (i := 15) rfl)), by decide +kernel, by decide⟩
theorem lVX6_349 : z_LV RX6 349 mX6_man 3 := ⟨⟨(zs40 _ (List.mem_of_getElem? (i := 20) rfl)), (zs1 _ (List.mem_of_getElem? (i := 5) rfl)), (zs18 _ (List.mem_of_getElem? (i := 22) rfl))⟩, (zs18 _ (List.mem_of_getElem? (i := 20) rfl)), (zs18 _ (List.mem_of_getElem? (i := 21) rfl)), by decide +kernel, by decide⟩
def YC : z_Lay := [.inl (5, [3, 7, 9, 14, 19, 24, 29, 0]), .inl (4, [4, 5, 6, 0, 0]), .inr (0, 960, 0, 0), .inr (0, 18, 0, 0), .inr (0, 64, 0, 0), .inl (2, [3, 8, 0, 0, 0, 0, 0]), .inr (0, 160, 0, 0), .inl (0, [3, 10, 11, 12, 13, 0, 0, 0, 0, 0]), .inr (0, 6, 0, 0), .inr (0, 6, 0, 0), .inr (0, 6, 0, 0), .inr (0, 6, 0, 0), .inl (0, [3, 15, 16, 17, 18, 0, 0, 0, 0, 0]), .inr (0, 6, 0, 0), .inr (0, 6, 0, 0), .inr (0, 6, 0, 0), .inr (0, 6, 0, 0), .inl (0, [3, 20, 21, 22, 23, 0, 0, 0, 0, 0]), .inr (0, 6, 0, 0), .inr (0, 6, 0, 0), .inr (0, 6, 0, 0), .inr (0, 6, 0, 0), .inl (1, [25, 26, 27, 28, 0, 0]), .inr (0, 36, 0, 0), .inr (0, 6, 0, 0), .inr (0, 6, 0, 0), .inr (0, 6, 0, 0), .inr (2, 4, 28, 2), .inl (3, [31, 0, 0]), .inr (0, 40, 0, 0), .inl (3, [33, 0, 0]), .inr (0, 40, 0, 0), .inl (3, [35, 0, 0]), .inr (0, 40, 0, 0), .inl (3, [37, 0, 0]), .inr (0, 40, 0, 0)]
theorem yc_0 : YC[0]? = some (.inl (5, [3, 7, 9, 14, 19, 24, 29, 0])) := rfl
theorem yc_1 : YC[1]? = some (.inl (4, [4, 5, 6, 0, 0])) := rfl
theorem yc_2 : YC[2]? = some (.inr (0, 960, 0, 0)) := rfl
theorem yc_3 : YC[3]? = some (.inr (0, 18, 0, 0)) := rfl
theorem yc_4 : YC[4]? = some (.inr (0, 64, 0, 0)) := rfl
theorem yc_5 : YC[5]? = some (.inl (2, [3, 8, 0, 0, 0, 0, 0])) := rfl
theorem yc_6 : YC[6]? = some (.inr (0, 160, 0, 0)) := rfl
theorem yc_7 : YC[7]? = some (.inl (0, [3, 10, 11, 12, 13, 0, 0, 0, 0, 0])) := rfl
theorem yc_8 : YC[8]? = some (.inr (0, 6, 0, 0)) := rfl
theorem yc_9 : YC[9]? = some (.inr (0, 6, 0, 0)) := rfl
theorem yc_10 : YC[10]? = some (.inr (0, 6, 0, 0)) := rfl
theorem yc_11 : YC[11]? = some (.inr (0, 6, 0, 0)) := rfl
theorem yc_12 : YC[12]? = some (.inl (0, [3, 15, 16, 17, 18, 0, 0, 0, 0, 0])) := rfl
theorem yc_13 : YC[13]? = some (.inr (0, 6, 0, 0)) := rfl
theorem yc_14 : YC[14]? = some (.inr (0, 6, 0, 0)) := rfl
theorem yc_15 : YC[15]? = some (.inr (0, 6, 0, 0)) := rfl
theorem yc_16 : YC[16]? = some (.inr (0, 6, 0, 0)) := rfl
theorem yc_17 : YC[17]? = some (.inl (0, [3, 20, 21, 22, 23, 0, 0, 0, 0, 0])) := rfl
theorem yc_18 : YC[18]? = some (.inr (0, 6, 0, 0)) := rfl
theorem yc_19 : YC[19]? = some (.inr (0, 6, 0, 0)) := rfl
theorem yc_20 : YC[20]? = some (.inr (0, 6, 0, 0)) := rfl
theorem yc_21 : YC[21]? = some (.inr (0, 6, 0, 0)) := rfl
theorem yc_22 : YC[22]? = some (.inl (1, [25, 26, 27, 28, 0, 0])) := rfl
theorem yc_23 : YC[23]? = some (.inr (0, 36, 0, 0)) := rfl
theorem yc_24 : YC[24]? = some (.inr (0, 6, 0, 0)) := rfl
theorem yc_25 : YC[25]? = some (.inr (0, 6, 0, 0)) := rfl
theorem yc_26 : YC[26]? = some (.inr (0, 6, 0, 0)) := rfl
theorem yc_27 : YC[27]? = some (.inr (2, 4, 28, 2)) := rfl
theorem yc_28 : YC[28]? = some (.inl (3, [31, 0, 0])) := rfl
theorem yc_29 : YC[29]? = some (.inr (0, 40, 0, 0)) := rfl
theorem yc_30 : YC[30]? = some (.inl (3, [33, 0, 0])) := rfl
theorem yc_31 : YC[31]? = some (.inr (0, 40, 0, 0)) := rfl
theorem yc_32 : YC[32]? = some (.inl (3, [35, 0, 0])) := rfl
theorem yc_33 : YC[33]? = some (.inr (0, 40, 0, 0)) := rfl
theorem yc_34 : YC[34]? = some (.inl (3, [37, 0, 0])) := rfl
theorem yc_35 : YC[35]? = some (.inr (0, 40, 0, 0)) := rfl
def YM : z_Lay := [.inl (6, [0, 3, 4, 0, 0, 5, 0, 0, 0, 6, 0, 7, 0, 0, 0, 0, 0, 0, 0, 0, 0, 0, 0, 0, 1, 0, 0, 0, 8, 9, 10, 0, 0, 11, 12, 0, 0, 0, 0, 0, 13, 14, 15, 16]), .inr (0, 960, 0, 0), .inr (0, 6, 0, 0), .inr (0, 160, 0, 0), .inr (0, 18, 0, 0), .inr (0, 6, 0, 0), .inr (0, 6, 0, 0), .inr (0, 19, 0, 0), .inr (0, 6, 0, 0), .inr (0, 18, 0, 0), .inr (0, 6, 0, 0), .inr (1, 4, 0, 0), .inr (0, 4, 0, 0), .inr (0, 4, 0, 0), .inr (0, 160, 0, 0)]
theorem ym_0 : YM[0]? = some (.inl (6, [0, 3, 4, 0, 0, 5, 0, 0, 0, 6, 0, 7, 0, 0, 0, 0, 0, 0, 0, 0, 0, 0, 0, 0, 1, 0, 0, 0, 8, 9, 10, 0, 0, 11, 12, 0, 0, 0, 0, 0, 13, 14, 15, 16])) := rfl
theorem ym_1 : YM[1]? = some (.inr (0, 960, 0, 0)) := rfl
theorem ym_2 : YM[2]? = some (.inr (0, 6, 0, 0)) := rfl
theorem ym_3 : YM[3]? = some (.inr (0, 160, 0, 0)) := rfl
theorem ym_4 : YM[4]? = some (.inr (0, 18, 0, 0)) := rfl
theorem ym_5 : YM[5]? = some (.inr (0, 6, 0, 0)) := rfl
theorem ym_6 : YM[6]? = some (.inr (0, 6, 0, 0)) := rfl
theorem ym_7 : YM[7]? = some (.inr (0, 19, 0, 0)) := rfl
theorem ym_8 : YM[8]? = some (.inr (0, 6, 0, 0)) := rfl
theorem ym_9 : YM[9]? = some (.inr (0, 18, 0, 0)) := rfl
theorem ym_10 : YM[10]? = some (.inr (0, 6, 0, 0)) := rfl
theorem ym_11 : YM[11]? = some (.inr (1, 4, 0, 0)) := rfl
theorem ym_12 : YM[12]? = some (.inr (0, 4, 0, 0)) := rfl
theorem ym_13 : YM[13]? = some (.inr (0, 4, 0, 0)) := rfl
theorem ym_14 : YM[14]? = some (.inr (0, 160, 0, 0)) := rfl
def z_lm (c : Nat) : Prop := YC[c]? = some (.inl (0, [3, c + 1 + 2, c + 2 + 2, c + 3 + 2, c + 4 + 2, 0, 0, 0, 0, 0])) ∧ YC[c + 1]? = some (.inr (0, 6, 0, 0)) ∧ YC[c + 2]? = some (.inr (0, 6, 0, 0)) ∧ YC[c + 3]? = some (.inr (0, 6, 0, 0)) ∧ YC[c + 4]? = some (.inr (0, 6, 0, 0))
theorem z_lm_7 : z_lm 7 := ⟨rfl, rfl, rfl, rfl, rfl⟩
theorem z_lm_12 : z_lm 12 := ⟨rfl, rfl, rfl, rfl, rfl⟩
theorem z_lm_17 : z_lm 17 := ⟨rfl, rfl, rfl, rfl, rfl⟩
def z_ls (c : Nat) : Prop := YC[c]? = some (.inl (3, [c + 1 + 2, 0, 0])) ∧ YC[c + 1]? = some (.inr (0, 40, 0, 0))
theorem z_ls_at {i : Int32} (h : z_in i 4) : z_ls (28 + 2 * z_x i) := by
  obtain ⟨j, hj, rfl⟩ := vp_in_of (z_in_vp h) (by decide)
  have e : z_x (nI j) = j := nI_clamp (by omega)
  rw [e]
  rcases (show j = 0 ∨ j = 1 ∨ j = 2 ∨ j = 3 by omega) with rfl | rfl | rfl | rfl <;> exact ⟨rfl, rfl⟩

set_option maxRecDepth 100000 in
theorem inGJ0 : ∀ w ∈ u_ws RJ0 TJ0 4, w ∈ lw_good := fun w h => gIn (inJ0 w h) (List.all_eq_true.mp (by decide +kernel : (u_ws RJ0 TJ0 4).all goodWord = true) w h)
set_option maxRecDepth 100000 in
theorem inGJ4 : ∀ w ∈ u_ws RJ4 TJ4 4, w ∈ lw_good := fun w h => gIn (inJ4 w h) (List.all_eq_true.mp (by decide +kernel : (u_ws RJ4 TJ4 4).all goodWord = true) w h)
set_option maxRecDepth 100000 in
theorem inGJx00060 : ∀ w ∈ u_ws RJx00060 TJx00060 6, w ∈ lw_good := fun w h => gIn (inJx00060 w h) (List.all_eq_true.mp (by decide +kernel : (u_ws RJx00060 TJx00060 6).all goodWord = true) w h)
set_option maxRecDepth 100000 in
theorem inGJx7c733 : ∀ w ∈ u_ws RJx7c733 TJx7c733 6, w ∈ lw_good := fun w h => gIn (inJx7c733 w h) (List.all_eq_true.mp (by decide +kernel : (u_ws RJx7c733 TJx7c733 6).all goodWord = true) w h)
set_option maxRecDepth 100000 in
theorem inGJx4a65c : ∀ w ∈ u_ws RJx4a65c TJx4a65c 3, w ∈ lw_good := fun w h => gIn (inJx4a65c w h) (List.all_eq_true.mp (by decide +kernel : (u_ws RJx4a65c TJx4a65c 3).all goodWord = true) w h)
set_option maxRecDepth 100000 in
theorem inGX1 : ∀ w ∈ u_ws RX1 TX1 4, w ∈ lw_good := fun w h => gIn (inX1 w h) (List.all_eq_true.mp (by decide +kernel : (u_ws RX1 TX1 4).all goodWord = true) w h)
set_option maxRecDepth 100000 in
theorem inGX3 : ∀ w ∈ u_ws RX3 TX3 7, w ∈ lw_good := fun w h => gIn (inX3 w h) (List.all_eq_true.mp (by decide +kernel : (u_ws RX3 TX3 7).all goodWord = true) w h)
set_option maxRecDepth 100000 in
theorem inGX4 : ∀ w ∈ u_ws RX4 TX4 11, w ∈ lw_good := fun w h => gIn (inX4 w h) (List.all_eq_true.mp (by decide +kernel : (u_ws RX4 TX4 11).all goodWord = true) w h)
set_option maxRecDepth 100000 in
theorem inGX5 : ∀ w ∈ u_ws RX5 TX5 4, w ∈ lw_good := fun w h => gIn (inX5 w h) (List.all_eq_true.mp (by decide +kernel : (u_ws RX5 TX5 4).all goodWord = true) w h)
set_option maxRecDepth 100000 in
theorem inGX6 : ∀ w ∈ u_ws RX6 TX6 5, w ∈ lw_good := fun w h => gIn (inX6 w h) (List.all_eq_true.mp (by decide +kernel : (u_ws RX6 TX6 5).all goodWord = true) w h)
set_option maxRecDepth 100000 in
theorem inGX7 : ∀ w ∈ u_ws RX7 TX7 3, w ∈ lw_good := fun w h => gIn (inX7 w h) (List.all_eq_true.mp (by decide +kernel : (u_ws RX7 TX7 3).all goodWord = true) w h)
set_option maxRecDepth 100000 in
theorem inGX8 : ∀ w ∈ u_ws RX8 TX8 2, w ∈ lw_good := fun w h => gIn (inX8 w h) (List.all_eq_true.mp (by decide +kernel : (u_ws RX8 TX8 2).all goodWord = true) w h)
set_option maxRecDepth 100000 in
theorem inGX9 : ∀ w ∈ u_ws RX9 TX9 9, w ∈ lw_good := fun w h => gIn (inX9 w h) (List.all_eq_true.mp (by decide +kernel : (u_ws RX9 TX9 9).all goodWord = true) w h)
set_option maxRecDepth 100000 in
theorem inGX10 : ∀ w ∈ u_ws RX10 TX10 20, w ∈ lw_good := fun w h => gIn (inX10 w h) (List.all_eq_true.mp (by decide +kernel : (u_ws RX10 TX10 20).all goodWord = true) w h)
def M_X1_init : gM := (yX1_init, cX1_init, 5, none, [])
def M_X1_executeOn : gM := (yX1_executeOn, cX1_executeOn, 2, (some FieldType.int), [])
def M_X3_init : gM := (yX3_init, cX3_init, 5, none, [])
def M_X3_duplicate : gM := (yX3_duplicate, cX3_duplicate, 2, (some (FieldType.object "MailOffice$Letter")), [])
def M_X3_inTray : gM := (yX3_inTray, cX3_inTray, 1, (some FieldType.boolean), [])
def M_X3_isIn : gM := (yX3_isIn, cX3_isIn, 3, (some FieldType.boolean), [])
def M_X3_moveToBag : gM := (yX3_moveToBag, cX3_moveToBag, 3, none, [])
def M_X3_moveToTray : gM := (yX3_moveToTray, cX3_moveToTray, 1, none, [])
def M_X3_comeBack : gM := (yX3_comeBack, cX3_comeBack, 1, none, [])
def M_X3_writeTo : gM := (yX3_writeTo, cX3_writeTo, 3, none, [])
def M_X4_init : gM := (yX4_init, cX4_init, 2, none, [])
def M_X4_duplicate : gM := (yX4_duplicate, cX4_duplicate, 3, (some (FieldType.object "MailOffice$Office")), [])
def M_X4_takeIn : gM := (yX4_takeIn, cX4_takeIn, 5, (some FieldType.int), [])
def M_X4_letterWith : gM := (yX4_letterWith, cX4_letterWith, 3, (some (FieldType.object "MailOffice$Letter")), [])
def M_X4_sortById : gM := (yX4_sortById, cX4_sortById, 3, (some FieldType.int), [])
def M_X4_placeById : gM := (yX4_placeById, cX4_placeById, 4, (some FieldType.int), [])
def M_X4_takeOut : gM := (yX4_takeOut, cX4_takeOut, 4, (some FieldType.int), [])
def M_X4_sortTray : gM := (yX4_sortTray, cX4_sortTray, 4, (some FieldType.int), [])
def M_X4_putByCode : gM := (yX4_putByCode, cX4_putByCode, 2, (some FieldType.int), [])
def M_X4_put : gM := (yX4_put, cX4_put, 4, (some FieldType.int), [])
def M_X4_sortingBag : gM := (yX4_sortingBag, cX4_sortingBag, 2, (some FieldType.int), [])
def M_X4_bagFor : gM := (yX4_bagFor, cX4_bagFor, 5, (some FieldType.int), [])
def M_X4_isLate : gM := (yX4_isLate, cX4_isLate, 3, (some FieldType.boolean), [])
def M_X4_changeCutoff : gM := (yX4_changeCutoff, cX4_changeCutoff, 4, (some FieldType.int), [])
def M_X4_changeDeparture : gM := (yX4_changeDeparture, cX4_changeDeparture, 4, (some FieldType.int), [])
def M_X4_passHours : gM := (yX4_passHours, cX4_passHours, 5, (some FieldType.int), [])
def M_X4_moveClock : gM := (yX4_moveClock, cX4_moveClock, 1, none, [])
def M_X4_sendLetters : gM := (yX4_sendLetters, cX4_sendLetters, 4, none, [])
def M_X4_wouldComeBack : gM := (yX4_wouldComeBack, cX4_wouldComeBack, 2, (some FieldType.boolean), [])
def M_X4_routeByCode : gM := (yX4_routeByCode, cX4_routeByCode, 2, (some FieldType.int), [])
def M_X4_countMissorted : gM := (yX4_countMissorted, cX4_countMissorted, 3, (some FieldType.int), [])
def M_X4_countLate : gM := (yX4_countLate, cX4_countLate, 4, (some FieldType.int), [])
def M_X4_orderedTray : gM := (yX4_orderedTray, cX4_orderedTray, 2, (some (FieldType.object "java/util/ArrayList")), [])
def M_X4_addTrayLetters : gM := (yX4_addTrayLetters, cX4_addTrayLetters, 5, none, [])
def M_X4_countBags : gM := (yX4_countBags, cX4_countBags, 2, (some FieldType.int), [])
def M_X4_weightInBag : gM := (yX4_weightInBag, cX4_weightInBag, 6, (some FieldType.int), [])
def M_X4_countInBag : gM := (yX4_countInBag, cX4_countInBag, 5, (some FieldType.int), [])
def M_X4_weightByLetters : gM := (yX4_weightByLetters, cX4_weightByLetters, 5, (some FieldType.int), [])
def M_X4_weightByBags : gM := (yX4_weightByBags, cX4_weightByBags, 4, (some FieldType.int), [])
def M_X4_totalWeight : gM := (yX4_totalWeight, cX4_totalWeight, 3, (some FieldType.int), [])
def M_X4_heaviestBag : gM := (yX4_heaviestBag, cX4_heaviestBag, 6, (some FieldType.int), [])
def M_X4_rankOf : gM := (yX4_rankOf, cX4_rankOf, 4, (some FieldType.int), [])
def M_X4_ranksBefore : gM := (yX4_ranksBefore, cX4_ranksBefore, 5, (some FieldType.boolean), [])
def M_X4_hoursUntilDeparture : gM := (yX4_hoursUntilDeparture, cX4_hoursUntilDeparture, 3, (some FieldType.int), [])
def M_X4_routesAgreeWith : gM := (yX4_routesAgreeWith, cX4_routesAgreeWith, 4, (some FieldType.boolean), [])
def M_X4_bagsAreSound : gM := (yX4_bagsAreSound, cX4_bagsAreSound, 2, (some FieldType.boolean), [])
def M_X4_hasTooHeavyBag : gM := (yX4_hasTooHeavyBag, cX4_hasTooHeavyBag, 3, (some FieldType.boolean), [])
def M_X4_lettersAddUp : gM := (yX4_lettersAddUp, cX4_lettersAddUp, 1, (some FieldType.boolean), [])
def M_X5_init : gM := (yX5_init, cX5_init, 3, none, [])
def M_X5_readProgram : gM := (yX5_readProgram, cX5_readProgram, 2, (some FieldType.boolean), [])
def M_X5_readCommand : gM := (yX5_readCommand, cX5_readCommand, 5, (some FieldType.boolean), [])
def M_X5_readKeyword : gM := (yX5_readKeyword, cX5_readKeyword, 5, (some (FieldType.object "MailOffice$Keyword")), [])
def M_X5_commonLength : gM := (yX5_commonLength, cX5_commonLength, 3, (some FieldType.int), [])
def M_X5_readNumber : gM := (yX5_readNumber, cX5_readNumber, 4, (some FieldType.int), [])
def M_X5_skip : gM := (yX5_skip, cX5_skip, 2, (some FieldType.boolean), [])
def M_X5_hasAt : gM := (yX5_hasAt, cX5_hasAt, 3, (some FieldType.boolean), [])
def M_X5_hasDigitAt : gM := (yX5_hasDigitAt, cX5_hasDigitAt, 2, (some FieldType.boolean), [])
def M_X5_isInside : gM := (yX5_isInside, cX5_isInside, 2, (some FieldType.boolean), [])
def M_X6_init : gM := (yX6_init, cX6_init, 4, none, [])
def M_X7_init : gM := (yX7_init, cX7_init, 1, none, [])
def M_X7_build : gM := (yX7_build, cX7_build, 3, none, [])
def M_X7_routeOfCode : gM := (yX7_routeOfCode, cX7_routeOfCode, 5, (some FieldType.int), [])
def M_X7_grow : gM := (yX7_grow, cX7_grow, 7, none, [])
def M_X7_addNode : gM := (yX7_addNode, cX7_addNode, 3, (some FieldType.int), [])
def M_X7_child : gM := (yX7_child, cX7_child, 4, (some FieldType.int), [])
def M_X7_linkChild : gM := (yX7_linkChild, cX7_linkChild, 5, none, [])
def M_X8_init : gM := (yX8_init, cX8_init, 1, none, [])
def M_X8_copyInto : gM := (yX8_copyInto, cX8_copyInto, 3, none, [])
def M_X8_enter : gM := (yX8_enter, cX8_enter, 4, (some FieldType.int), [])
def M_X8_strike : gM := (yX8_strike, cX8_strike, 4, (some FieldType.int), [])
def M_X8_positionOf : gM := (yX8_positionOf, cX8_positionOf, 5, (some FieldType.int), [])
def M_X8_longestMatch : gM := (yX8_longestMatch, cX8_longestMatch, 7, (some (FieldType.object "MailOffice$Prefix")), [])
def M_X8_countCodes : gM := (yX8_countCodes, cX8_countCodes, 6, (some FieldType.int), [])
def M_X9_init : gM := (yX9_init, cX9_init, 1, none, [])
def M_X9_accept : gM := (yX9_accept, cX9_accept, 5, (some FieldType.int), [])
def M_X9_addPrefix : gM := (yX9_addPrefix, cX9_addPrefix, 5, (some FieldType.int), [])
def M_X9_removePrefix : gM := (yX9_removePrefix, cX9_removePrefix, 4, (some FieldType.int), [])
def M_X9_sort : gM := (yX9_sort, cX9_sort, 3, (some FieldType.int), [])
def M_X9_sortAll : gM := (yX9_sortAll, cX9_sortAll, 2, (some FieldType.int), [])
def M_X9_place : gM := (yX9_place, cX9_place, 4, (some FieldType.int), [])
def M_X9_pull : gM := (yX9_pull, cX9_pull, 3, (some FieldType.int), [])
def M_X9_setCutoff : gM := (yX9_setCutoff, cX9_setCutoff, 4, (some FieldType.int), [])
def M_X9_setDeparture : gM := (yX9_setDeparture, cX9_setDeparture, 4, (some FieldType.int), [])
def M_X9_pass : gM := (yX9_pass, cX9_pass, 3, (some FieldType.int), [])
def M_X9_concluded : gM := (yX9_concluded, cX9_concluded, 3, (some FieldType.int), [])
def M_X9_raise : gM := (yX9_raise, cX9_raise, 1, none, [])
def M_X9_keepForUndo : gM := (yX9_keepForUndo, cX9_keepForUndo, 2, none, [])
def M_X9_hour : gM := (yX9_hour, cX9_hour, 1, (some FieldType.int), [])
def M_X9_day : gM := (yX9_day, cX9_day, 1, (some FieldType.int), [])
def M_X9_letterCount : gM := (yX9_letterCount, cX9_letterCount, 1, (some FieldType.int), [])
def M_X9_isPresent : gM := (yX9_isPresent, cX9_isPresent, 2, (some FieldType.boolean), [])
def M_X9_idAt : gM := (yX9_idAt, cX9_idAt, 2, (some FieldType.int), [])
def M_X9_codeOf : gM := (yX9_codeOf, cX9_codeOf, 2, (some FieldType.int), [])
def M_X9_weightOf : gM := (yX9_weightOf, cX9_weightOf, 2, (some FieldType.int), [])
def M_X9_isPriority : gM := (yX9_isPriority, cX9_isPriority, 2, (some FieldType.boolean), [])
def M_X9_returnsOf : gM := (yX9_returnsOf, cX9_returnsOf, 2, (some FieldType.int), [])
def M_X9_isInTray : gM := (yX9_isInTray, cX9_isInTray, 2, (some FieldType.boolean), [])
def M_X9_routeOfBag : gM := (yX9_routeOfBag, cX9_routeOfBag, 2, (some FieldType.int), [])
def M_X9_bagOf : gM := (yX9_bagOf, cX9_bagOf, 2, (some FieldType.int), [])
def M_X9_isMissorted : gM := (yX9_isMissorted, cX9_isMissorted, 2, (some FieldType.boolean), [])
def M_X9_canSort : gM := (yX9_canSort, cX9_canSort, 2, (some FieldType.boolean), [])
def M_X9_sortableCount : gM := (yX9_sortableCount, cX9_sortableCount, 1, (some FieldType.int), [])
def M_X9_presentLetter : gM := (yX9_presentLetter, cX9_presentLetter, 3, (some (FieldType.object "MailOffice$Letter")), [])
def M_X9_baggedLetter : gM := (yX9_baggedLetter, cX9_baggedLetter, 3, (some (FieldType.object "MailOffice$Letter")), [])
def M_X9_lateCount : gM := (yX9_lateCount, cX9_lateCount, 1, (some FieldType.int), [])
def M_X9_traySize : gM := (yX9_traySize, cX9_traySize, 1, (some FieldType.int), [])
def M_X9_trayAt : gM := (yX9_trayAt, cX9_trayAt, 3, (some FieldType.int), [])
def M_X9_prefixCount : gM := (yX9_prefixCount, cX9_prefixCount, 1, (some FieldType.int), [])
def M_X9_hasPrefix : gM := (yX9_hasPrefix, cX9_hasPrefix, 3, (some FieldType.boolean), [])
def M_X9_routeFor : gM := (yX9_routeFor, cX9_routeFor, 2, (some FieldType.int), [])
def M_X9_routeForByTree : gM := (yX9_routeForByTree, cX9_routeForByTree, 2, (some FieldType.int), [])
def M_X9_matchLength : gM := (yX9_matchLength, cX9_matchLength, 2, (some FieldType.int), [])
def M_X9_codesOf : gM := (yX9_codesOf, cX9_codesOf, 2, (some FieldType.int), [])
def M_X9_requireCode : gM := (yX9_requireCode, cX9_requireCode, 1, none, [])
def M_X9_requireRoute : gM := (yX9_requireRoute, cX9_requireRoute, 1, none, [])
def M_X9_foundRoute : gM := (yX9_foundRoute, cX9_foundRoute, 1, (some FieldType.int), [])
def M_X9_bagCount : gM := (yX9_bagCount, cX9_bagCount, 2, (some FieldType.int), [])
def M_X9_bagWeight : gM := (yX9_bagWeight, cX9_bagWeight, 3, (some FieldType.int), [])
def M_X9_lettersInBag : gM := (yX9_lettersInBag, cX9_lettersInBag, 3, (some FieldType.int), [])
def M_X9_routeWeight : gM := (yX9_routeWeight, cX9_routeWeight, 2, (some FieldType.int), [])
def M_X9_routeWeightByBags : gM := (yX9_routeWeightByBags, cX9_routeWeightByBags, 2, (some FieldType.int), [])
def M_X9_cutoff : gM := (yX9_cutoff, cX9_cutoff, 2, (some FieldType.int), [])
def M_X9_departure : gM := (yX9_departure, cX9_departure, 2, (some FieldType.int), [])
def M_X9_hoursToDeparture : gM := (yX9_hoursToDeparture, cX9_hoursToDeparture, 2, (some FieldType.int), [])
def M_X9_hoursToDelivery : gM := (yX9_hoursToDelivery, cX9_hoursToDelivery, 2, (some FieldType.int), [])
def M_X9_hoursToDeliveryByHours : gM := (yX9_hoursToDeliveryByHours, cX9_hoursToDeliveryByHours, 5, (some FieldType.int), [])
def M_X9_freeWeight : gM := (yX9_freeWeight, cX9_freeWeight, 2, (some FieldType.int), [])
def M_X9_fullestBag : gM := (yX9_fullestBag, cX9_fullestBag, 3, (some FieldType.int), [])
def M_X9_routeByWeight : gM := (yX9_routeByWeight, cX9_routeByWeight, 3, (some FieldType.int), [])
def M_X9_requireBag : gM := (yX9_requireBag, cX9_requireBag, 3, none, [])
def M_X9_deliverableLetter : gM := (yX9_deliverableLetter, cX9_deliverableLetter, 3, (some (FieldType.object "MailOffice$Letter")), [])
def M_X9_missortedCount : gM := (yX9_missortedCount, cX9_missortedCount, 1, (some FieldType.int), [])
def M_X9_deliveredCount : gM := (yX9_deliveredCount, cX9_deliveredCount, 1, (some FieldType.int), [])
def M_X9_deadCount : gM := (yX9_deadCount, cX9_deadCount, 1, (some FieldType.int), [])
def M_X9_returnCount : gM := (yX9_returnCount, cX9_returnCount, 1, (some FieldType.int), [])
def M_X9_meanWeight : gM := (yX9_meanWeight, cX9_meanWeight, 2, (some FieldType.double), [])
def M_X9_deliveredShare : gM := (yX9_deliveredShare, cX9_deliveredShare, 2, (some FieldType.float), [])
def M_X9_isConsistent : gM := (yX9_isConsistent, cX9_isConsistent, 1, (some FieldType.boolean), [])
def M_X9_formatLetter : gM := (yX9_formatLetter, cX9_formatLetter, 3, (some FieldType.int), [])
def M_X9_lineChar : gM := (yX9_lineChar, cX9_lineChar, 2, (some FieldType.char), [])
def M_X9_append : gM := (yX9_append, cX9_append, 2, (some FieldType.int), [])
def M_X9_run : gM := (yX9_run, cX9_run, 5, (some FieldType.int), [])
def M_X9_errorPosition : gM := (yX9_errorPosition, cX9_errorPosition, 1, (some FieldType.int), [])
def M_X9_failedCommand : gM := (yX9_failedCommand, cX9_failedCommand, 1, (some FieldType.int), [])
def M_X9_undoableCount : gM := (yX9_undoableCount, cX9_undoableCount, 1, (some FieldType.int), [])
def M_X9_undo : gM := (yX9_undo, cX9_undo, 2, (some FieldType.int), [])
def M_X9_save : gM := (yX9_save, cX9_save, 1, (some FieldType.int), [])
def M_X9_restore : gM := (yX9_restore, cX9_restore, 1, (some FieldType.int), [])
def M_X9_isCode : gM := (yX9_isCode, cX9_isCode, 1, (some FieldType.boolean), [])
def M_X9_isRoute : gM := (yX9_isRoute, cX9_isRoute, 1, (some FieldType.boolean), [])
def M_X9_isPrefix : gM := (yX9_isPrefix, cX9_isPrefix, 2, (some FieldType.boolean), [])
def M_X9_powerOfTen : gM := (yX9_powerOfTen, cX9_powerOfTen, 1, (some FieldType.int), [])
def M_X10_init : gM := (yX10_init, cX10_init, 2, none, [])
def M_X10_thrown : gM := (yX10_thrown, cX10_thrown, 1, (some FieldType.int), [])
def M_X10_isIn : gM := (yX10_isIn, cX10_isIn, 3, (some FieldType.boolean), [])
def M_X10_copies : gM := (yX10_copies, cX10_copies, 5, none, [])
def M_X10_holds : gM := (yX10_holds, cX10_holds, 4, (some FieldType.boolean), [])
def M_X10_goes : gM := (yX10_goes, cX10_goes, 2, (some FieldType.boolean), [])
def M_X10_begins : gM := (yX10_begins, cX10_begins, 1, none, [])
def M_X10_remembers : gM := (yX10_remembers, cX10_remembers, 2, none, [])
def M_X10_ends : gM := (yX10_ends, cX10_ends, 2, (some FieldType.int), [])
def M_X10_undoableCount : gM := (yX10_undoableCount, cX10_undoableCount, 1, (some FieldType.int), [])
def M_X10_undo : gM := (yX10_undo, cX10_undo, 1, (some FieldType.int), [])
def M_X10_save : gM := (yX10_save, cX10_save, 1, (some FieldType.int), [])
def M_X10_restore : gM := (yX10_restore, cX10_restore, 1, (some FieldType.int), [])
def M_X10_isRoute : gM := (yX10_isRoute, cX10_isRoute, 1, (some FieldType.boolean), [])
def M_X10_routeAt : gM := (yX10_routeAt, cX10_routeAt, 1, (some FieldType.int), [])
def M_X10_isCode : gM := (yX10_isCode, cX10_isCode, 1, (some FieldType.boolean), [])
def M_X10_tens : gM := (yX10_tens, cX10_tens, 1, (some FieldType.int), [])
def M_X10_isPrefix : gM := (yX10_isPrefix, cX10_isPrefix, 2, (some FieldType.boolean), [])
def M_X10_ofPrefix : gM := (yX10_ofPrefix, cX10_ofPrefix, 3, (some FieldType.int), [])
def M_X10_find : gM := (yX10_find, cX10_find, 5, (some FieldType.int), [])
def M_X10_matching : gM := (yX10_matching, cX10_matching, 8, (some FieldType.int), [])
def M_X10_routed : gM := (yX10_routed, cX10_routed, 3, (some FieldType.int), [])
def M_X10_letterAt : gM := (yX10_letterAt, cX10_letterAt, 1, (some FieldType.int), [])
def M_X10_placeOf : gM := (yX10_placeOf, cX10_placeOf, 4, (some FieldType.int), [])
def M_X10_of : gM := (yX10_of, cX10_of, 3, (some FieldType.int), [])
def M_X10_isHere : gM := (yX10_isHere, cX10_isHere, 2, (some FieldType.boolean), [])
def M_X10_weightIn : gM := (yX10_weightIn, cX10_weightIn, 6, (some FieldType.int), [])
def M_X10_lettersIn : gM := (yX10_lettersIn, cX10_lettersIn, 5, (some FieldType.int), [])
def M_X10_bagFor : gM := (yX10_bagFor, cX10_bagFor, 5, (some FieldType.int), [])
def M_X10_canGo : gM := (yX10_canGo, cX10_canGo, 5, (some FieldType.boolean), [])
def M_X10_goesInto : gM := (yX10_goesInto, cX10_goesInto, 5, (some FieldType.int), [])
def M_X10_accepts : gM := (yX10_accepts, cX10_accepts, 5, (some FieldType.int), [])
def M_X10_accept : gM := (yX10_accept, cX10_accept, 4, (some FieldType.int), [])
def M_X10_adds : gM := (yX10_adds, cX10_adds, 6, (some FieldType.int), [])
def M_X10_addPrefix : gM := (yX10_addPrefix, cX10_addPrefix, 4, (some FieldType.int), [])
def M_X10_removes : gM := (yX10_removes, cX10_removes, 6, (some FieldType.int), [])
def M_X10_removePrefix : gM := (yX10_removePrefix, cX10_removePrefix, 3, (some FieldType.int), [])
def M_X10_sorts : gM := (yX10_sorts, cX10_sorts, 4, (some FieldType.int), [])
def M_X10_sort : gM := (yX10_sort, cX10_sort, 2, (some FieldType.int), [])
def M_X10_sortsKind : gM := (yX10_sortsKind, cX10_sortsKind, 6, (some FieldType.int), [])
def M_X10_sortsAll : gM := (yX10_sortsAll, cX10_sortsAll, 2, (some FieldType.int), [])
def M_X10_sortAll : gM := (yX10_sortAll, cX10_sortAll, 1, (some FieldType.int), [])
def M_X10_places : gM := (yX10_places, cX10_places, 4, (some FieldType.int), [])
def M_X10_place : gM := (yX10_place, cX10_place, 3, (some FieldType.int), [])
def M_X10_pulls : gM := (yX10_pulls, cX10_pulls, 3, (some FieldType.int), [])
def M_X10_pull : gM := (yX10_pull, cX10_pull, 2, (some FieldType.int), [])
def M_X10_sets : gM := (yX10_sets, cX10_sets, 6, (some FieldType.int), [])
def M_X10_setCutoff : gM := (yX10_setCutoff, cX10_setCutoff, 3, (some FieldType.int), [])
def M_X10_setDeparture : gM := (yX10_setDeparture, cX10_setDeparture, 3, (some FieldType.int), [])
def M_X10_leaves : gM := (yX10_leaves, cX10_leaves, 3, none, [])
def M_X10_isDead : gM := (yX10_isDead, cX10_isDead, 4, (some FieldType.boolean), [])
def M_X10_departs : gM := (yX10_departs, cX10_departs, 7, (some FieldType.int), [])
def M_X10_waits : gM := (yX10_waits, cX10_waits, 5, (some FieldType.int), [])
def M_X10_pass : gM := (yX10_pass, cX10_pass, 2, (some FieldType.int), [])
def M_X10_hour : gM := (yX10_hour, cX10_hour, 1, (some FieldType.int), [])
def M_X10_day : gM := (yX10_day, cX10_day, 1, (some FieldType.int), [])
def M_X10_letterCount : gM := (yX10_letterCount, cX10_letterCount, 1, (some FieldType.int), [])
def M_X10_isPresent : gM := (yX10_isPresent, cX10_isPresent, 2, (some FieldType.boolean), [])
def M_X10_idAt : gM := (yX10_idAt, cX10_idAt, 2, (some FieldType.int), [])
def M_X10_asks : gM := (yX10_asks, cX10_asks, 3, (some FieldType.int), [])
def M_X10_codeOf : gM := (yX10_codeOf, cX10_codeOf, 2, (some FieldType.int), [])
def M_X10_weightOf : gM := (yX10_weightOf, cX10_weightOf, 2, (some FieldType.int), [])
def M_X10_isPriority : gM := (yX10_isPriority, cX10_isPriority, 2, (some FieldType.boolean), [])
def M_X10_returnsOf : gM := (yX10_returnsOf, cX10_returnsOf, 2, (some FieldType.int), [])
def M_X10_isInTray : gM := (yX10_isInTray, cX10_isInTray, 2, (some FieldType.boolean), [])
def M_X10_routeOfBag : gM := (yX10_routeOfBag, cX10_routeOfBag, 2, (some FieldType.int), [])
def M_X10_bagOf : gM := (yX10_bagOf, cX10_bagOf, 2, (some FieldType.int), [])
def M_X10_isWrong : gM := (yX10_isWrong, cX10_isWrong, 3, (some FieldType.boolean), [])
def M_X10_isMissorted : gM := (yX10_isMissorted, cX10_isMissorted, 2, (some FieldType.boolean), [])
def M_X10_canSort : gM := (yX10_canSort, cX10_canSort, 2, (some FieldType.boolean), [])
def M_X10_sortableCount : gM := (yX10_sortableCount, cX10_sortableCount, 2, (some FieldType.int), [])
def M_X10_lateCount : gM := (yX10_lateCount, cX10_lateCount, 6, (some FieldType.int), [])
def M_X10_traySize : gM := (yX10_traySize, cX10_traySize, 1, (some FieldType.int), [])
def M_X10_trayAt : gM := (yX10_trayAt, cX10_trayAt, 6, (some FieldType.int), [])
def M_X10_prefixCount : gM := (yX10_prefixCount, cX10_prefixCount, 1, (some FieldType.int), [])
def M_X10_hasPrefix : gM := (yX10_hasPrefix, cX10_hasPrefix, 3, (some FieldType.boolean), [])
def M_X10_routeOf : gM := (yX10_routeOf, cX10_routeOf, 3, (some FieldType.int), [])
def M_X10_routeFor : gM := (yX10_routeFor, cX10_routeFor, 2, (some FieldType.int), [])
def M_X10_routeForByTree : gM := (yX10_routeForByTree, cX10_routeForByTree, 2, (some FieldType.int), [])
def M_X10_matchLength : gM := (yX10_matchLength, cX10_matchLength, 3, (some FieldType.int), [])
def M_X10_codesOf : gM := (yX10_codesOf, cX10_codesOf, 6, (some FieldType.int), [])
def M_X10_bagCount : gM := (yX10_bagCount, cX10_bagCount, 2, (some FieldType.int), [])
def M_X10_isBag : gM := (yX10_isBag, cX10_isBag, 3, (some FieldType.boolean), [])
def M_X10_bagWeight : gM := (yX10_bagWeight, cX10_bagWeight, 3, (some FieldType.int), [])
def M_X10_lettersInBag : gM := (yX10_lettersInBag, cX10_lettersInBag, 3, (some FieldType.int), [])
def M_X10_routeWeight : gM := (yX10_routeWeight, cX10_routeWeight, 2, (some FieldType.int), [])
def M_X10_routeWeightByBags : gM := (yX10_routeWeightByBags, cX10_routeWeightByBags, 2, (some FieldType.int), [])
def M_X10_cutoff : gM := (yX10_cutoff, cX10_cutoff, 2, (some FieldType.int), [])
def M_X10_departure : gM := (yX10_departure, cX10_departure, 2, (some FieldType.int), [])
def M_X10_hoursTo : gM := (yX10_hoursTo, cX10_hoursTo, 2, (some FieldType.int), [])
def M_X10_hoursToDeparture : gM := (yX10_hoursToDeparture, cX10_hoursToDeparture, 2, (some FieldType.int), [])
def M_X10_hoursFor : gM := (yX10_hoursFor, cX10_hoursFor, 3, (some FieldType.int), [])
def M_X10_hoursToDelivery : gM := (yX10_hoursToDelivery, cX10_hoursToDelivery, 2, (some FieldType.int), [])
def M_X10_hoursToDeliveryByHours : gM := (yX10_hoursToDeliveryByHours, cX10_hoursToDeliveryByHours, 2, (some FieldType.int), [])
def M_X10_freeWeight : gM := (yX10_freeWeight, cX10_freeWeight, 2, (some FieldType.int), [])
def M_X10_fullestBag : gM := (yX10_fullestBag, cX10_fullestBag, 5, (some FieldType.int), [])
def M_X10_routeByWeight : gM := (yX10_routeByWeight, cX10_routeByWeight, 8, (some FieldType.int), [])
def M_X10_missortedCount : gM := (yX10_missortedCount, cX10_missortedCount, 3, (some FieldType.int), [])
def M_X10_deliveredCount : gM := (yX10_deliveredCount, cX10_deliveredCount, 1, (some FieldType.int), [])
def M_X10_deadCount : gM := (yX10_deadCount, cX10_deadCount, 1, (some FieldType.int), [])
def M_X10_returnCount : gM := (yX10_returnCount, cX10_returnCount, 1, (some FieldType.int), [])
def M_X10_meanWeight : gM := (yX10_meanWeight, cX10_meanWeight, 3, (some FieldType.double), [])
def M_X10_deliveredShare : gM := (yX10_deliveredShare, cX10_deliveredShare, 1, (some FieldType.float), [])
def M_X10_isConsistent : gM := (yX10_isConsistent, cX10_isConsistent, 1, (some FieldType.boolean), [])
def M_X10_put : gM := (yX10_put, cX10_put, 3, (some FieldType.int), [])
def M_X10_writesNumber : gM := (yX10_writesNumber, cX10_writesNumber, 6, (some FieldType.int), [])
def M_X10_writesCode : gM := (yX10_writesCode, cX10_writesCode, 5, (some FieldType.int), [])
def M_X10_formatLetter : gM := (yX10_formatLetter, cX10_formatLetter, 3, (some FieldType.int), [])
def M_X10_lineChar : gM := (yX10_lineChar, cX10_lineChar, 2, (some FieldType.char), [])
def M_X10_append : gM := (yX10_append, cX10_append, 2, (some FieldType.int), [])
def M_X10_letterHere : gM := (yX10_letterHere, cX10_letterHere, 1, (some FieldType.int), [])
def M_X10_reads : gM := (yX10_reads, cX10_reads, 3, (some FieldType.int), [])
def M_X10_number : gM := (yX10_number, cX10_number, 3, (some FieldType.int), [])
def M_X10_startOf : gM := (yX10_startOf, cX10_startOf, 1, (some FieldType.int), [])
def M_X10_kindHere : gM := (yX10_kindHere, cX10_kindHere, 6, (some FieldType.int), [])
def M_X10_readsNumbers : gM := (yX10_readsNumbers, cX10_readsNumbers, 6, none, [])
def M_X10_readsCommand : gM := (yX10_readsCommand, cX10_readsCommand, 3, none, [])
def M_X10_readsAll : gM := (yX10_readsAll, cX10_readsAll, 2, none, [])
def M_X10_does : gM := (yX10_does, cX10_does, 5, (some FieldType.int), [])
def M_X10_run : gM := (yX10_run, cX10_run, 3, (some FieldType.int), [])
def M_X10_errorPosition : gM := (yX10_errorPosition, cX10_errorPosition, 1, (some FieldType.int), [])
def M_X10_failedCommand : gM := (yX10_failedCommand, cX10_failedCommand, 1, (some FieldType.int), [])
def M_J5_init_d00df : gM := (yJ5_init_d00df, cJ5_init_d00df, 2, none, [])
def M_J5_length_8abf5 : gM := (yJ5_length_8abf5, cJ5_length_8abf5, 1, (some FieldType.int), [])
def M_J5_ensureCapacityInternal_d00df : gM := (yJ5_ensureCapacityInternal_d00df, cJ5_ensureCapacityInternal_d00df, 3, none, [])
def M_J5_newCapacity_0f7a4 : gM := (yJ5_newCapacity_0f7a4, cJ5_newCapacity_0f7a4, 6, (some FieldType.int), [])
def M_J5_inflate_da8c8 : gM := (yJ5_inflate_da8c8, cJ5_inflate_da8c8, 2, none, [])
def M_J5_setLength_d00df : gM := (yJ5_setLength_d00df, cJ5_setLength_d00df, 2, none, [])
def M_J5_charAt_5068e : gM := (yJ5_charAt_5068e, cJ5_charAt_5068e, 5, (some FieldType.char), [])
def M_J5_append_cf1ce : gM := (yJ5_append_cf1ce, cJ5_append_cf1ce, 3, (some (FieldType.object "java/lang/AbstractStringBuilder")), [])
def M_J5_appendNull_278bc : gM := (yJ5_appendNull_278bc, cJ5_appendNull_278bc, 3, (some (FieldType.object "java/lang/AbstractStringBuilder")), [])
def M_J5_append_3fe6f : gM := (yJ5_append_3fe6f, cJ5_append_3fe6f, 2, (some (FieldType.object "java/lang/AbstractStringBuilder")), [])
def M_J5_append_c97b9 : gM := (yJ5_append_c97b9, cJ5_append_c97b9, 4, (some (FieldType.object "java/lang/AbstractStringBuilder")), [])
def M_J5_getValue_6d5f1 : gM := (yJ5_getValue_6d5f1, cJ5_getValue_6d5f1, 1, (some (FieldType.array FieldType.byte)), [])
def M_J5_isLatin1_aae02 : gM := (yJ5_isLatin1_aae02, cJ5_isLatin1_aae02, 1, (some FieldType.boolean), [])
def M_J5_inflateIfNeededFor_a7421 : gM := (yJ5_inflateIfNeededFor_a7421, cJ5_inflateIfNeededFor_a7421, 2, none, [])
def M_J5_putStringAt_47b60 : gM := (yJ5_putStringAt_47b60, cJ5_putStringAt_47b60, 3, none, [])
def M_Jx00060_init_a7421 : gM := (yJx00060_init_a7421, cJx00060_init_a7421, 2, none, [])
def M_Jx00060_init_d00df : gM := (yJx00060_init_d00df, cJx00060_init_d00df, 2, none, [])
def M_Jx29ce0_ordinal_8abf5 : gM := (yJx29ce0_ordinal_8abf5, cJx29ce0_ordinal_8abf5, 1, (some FieldType.int), [])
def M_J6_getChars_ba4f3 : gM := (yJ6_getChars_ba4f3, cJ6_getChars_ba4f3, 7, (some FieldType.int), [])
def M_J6_stringSize_0f7a4 : gM := (yJ6_stringSize_0f7a4, cJ6_stringSize_0f7a4, 4, (some FieldType.int), [])
def M_J9_max_7cf53 : gM := (yJ9_max_7cf53, cJ9_max_7cf53, 2, (some FieldType.int), [])
def M_J9_min_7cf53 : gM := (yJ9_min_7cf53, cJ9_min_7cf53, 2, (some FieldType.int), [])
def M_J0_init_81219 : gM := (yJ0_init_81219, cJ0_init_81219, 2, none, [])
def M_J0_length_8abf5 : gM := (yJ0_length_8abf5, cJ0_length_8abf5, 1, (some FieldType.int), [])
def M_J0_charAt_5068e : gM := (yJ0_charAt_5068e, cJ0_charAt_5068e, 2, (some FieldType.char), [])
def M_J0_getBytes_840e7 : gM := (yJ0_getBytes_840e7, cJ0_getBytes_840e7, 4, none, [])
def M_J0_init_db425 : gM := (yJ0_init_db425, cJ0_init_db425, 5, none, [])
def M_J0_coder_7d493 : gM := (yJ0_coder_7d493, cJ0_coder_7d493, 1, (some FieldType.byte), [])
def M_J0_isLatin1_aae02 : gM := (yJ0_isLatin1_aae02, cJ0_isLatin1_aae02, 1, (some FieldType.boolean), [])
def M_J0_checkIndex_df160 : gM := (yJ0_checkIndex_df160, cJ0_checkIndex_df160, 2, none, [])
def M_J0_checkBoundsOffCount_cabcc : gM := (yJ0_checkBoundsOffCount_cabcc, cJ0_checkBoundsOffCount_cabcc, 3, (some FieldType.int), [])
def M_J0_checkBoundsBeginEnd_23922 : gM := (yJ0_checkBoundsBeginEnd_23922, cJ0_checkBoundsBeginEnd_23922, 3, none, [])
def M_J4_init_da8c8 : gM := (yJ4_init_da8c8, cJ4_init_da8c8, 1, none, [])
def M_J4_append_15ec4 : gM := (yJ4_append_15ec4, cJ4_append_15ec4, 2, (some (FieldType.object "java/lang/StringBuilder")), [])
def M_J4_append_cf468 : gM := (yJ4_append_cf468, cJ4_append_cf468, 2, (some (FieldType.object "java/lang/StringBuilder")), [])
def M_J4_append_bf812 : gM := (yJ4_append_bf812, cJ4_append_bf812, 2, (some (FieldType.object "java/lang/StringBuilder")), [])
def M_J4_toString_0e30d : gM := (yJ4_toString_0e30d, cJ4_toString_0e30d, 1, (some (FieldType.object "java/lang/String")), [])
def M_J4_charAt_5068e : gM := (yJ4_charAt_5068e, cJ4_charAt_5068e, 2, (some FieldType.char), [])
def M_J4_setLength_d00df : gM := (yJ4_setLength_d00df, cJ4_setLength_d00df, 2, none, [])
def M_J4_length_8abf5 : gM := (yJ4_length_8abf5, cJ4_length_8abf5, 1, (some FieldType.int), [])
def M_Jx7c733_init_d00df : gM := (yJx7c733_init_d00df, cJx7c733_init_d00df, 2, none, [])
def M_J1_charAt_3b067 : gM := (yJ1_charAt_3b067, cJ1_charAt_3b067, 2, (some FieldType.char), [])
def M_J1_canEncode_fc78d : gM := (yJ1_canEncode_fc78d, cJ1_canEncode_fc78d, 1, (some FieldType.boolean), [])
def M_J1_fillNull_b72d1 : gM := (yJ1_fillNull_b72d1, cJ1_fillNull_b72d1, 3, none, [])
def M_J1_inflate_0e8fd : gM := (yJ1_inflate_0e8fd, cJ1_inflate_0e8fd, 5, none, [])
def M_J2_newBytesFor_77867 : gM := (yJ2_newBytesFor_77867, cJ2_newBytesFor_77867, 1, (some (FieldType.array FieldType.byte)), [])
def M_J2_newBytesLength_0f7a4 : gM := (yJ2_newBytesLength_0f7a4, cJ2_newBytesLength_0f7a4, 1, (some FieldType.int), [])
def M_J2_putChar_b72d1 : gM := (yJ2_putChar_b72d1, cJ2_putChar_b72d1, 3, none, [])
def M_J2_getChar_3b067 : gM := (yJ2_getChar_3b067, cJ2_getChar_3b067, 2, (some FieldType.char), [])
def M_J2_length_9d52b : gM := (yJ2_length_9d52b, cJ2_length_9d52b, 1, (some FieldType.int), [])
def M_J2_coderFromArrayLen_85cad : gM := (yJ2_coderFromArrayLen_85cad, cJ2_coderFromArrayLen_85cad, 2, (some FieldType.byte), [])
def M_J2_compress_39247 : gM := (yJ2_compress_39247, cJ2_compress_39247, 6, (some (FieldType.array FieldType.byte)), [])
def M_J2_compress_5af95 : gM := (yJ2_compress_5af95, cJ2_compress_5af95, 7, (some FieldType.int), [])
def M_J2_fillNull_b72d1 : gM := (yJ2_fillNull_b72d1, cJ2_fillNull_b72d1, 3, none, [])
def M_J2_putCharSB_b72d1 : gM := (yJ2_putCharSB_b72d1, cJ2_putCharSB_b72d1, 3, none, [])
def M_J2_getChars_46870 : gM := (yJ2_getChars_46870, cJ2_getChars_46870, 5, (some FieldType.int), [])
def M_J2_putCharsAt_cd4e5 : gM := (yJ2_putCharsAt_cd4e5, cJ2_putCharsAt_cd4e5, 7, (some FieldType.int), [])
def M_J2_charAt_3b067 : gM := (yJ2_charAt_3b067, cJ2_charAt_3b067, 2, (some FieldType.char), [])
def M_J2_inflate_0e8fd : gM := (yJ2_inflate_0e8fd, cJ2_inflate_0e8fd, 6, none, [])
def M_J2_getChars_ba4f3 : gM := (yJ2_getChars_ba4f3, cJ2_getChars_ba4f3, 7, (some FieldType.int), [])
def M_J2_checkIndex_2214a : gM := (yJ2_checkIndex_2214a, cJ2_checkIndex_2214a, 2, none, [])
def M_J2_checkBoundsBeginEnd_d044e : gM := (yJ2_checkBoundsBeginEnd_d044e, cJ2_checkBoundsBeginEnd_d044e, 3, none, [])
def M_J2_checkBoundsOffCount_d044e : gM := (yJ2_checkBoundsOffCount_d044e, cJ2_checkBoundsOffCount_d044e, 3, none, [])
def M_Jxa1e45_init_da8c8 : gM := (yJxa1e45_init_da8c8, cJxa1e45_init_da8c8, 1, none, [])
def M_Jxc12de_init_da8c8 : gM := (yJxc12de_init_da8c8, cJxc12de_init_da8c8, 1, none, [])
def M_Jx4a65c_init_da8c8 : gM := (yJx4a65c_init_da8c8, cJx4a65c_init_da8c8, 1, none, [])
def M_Jx4a65c_grow_92f84 : gM := (yJx4a65c_grow_92f84, cJx4a65c_grow_92f84, 4, (some (FieldType.array (FieldType.object "java/lang/Object"))), [])
def M_Jx4a65c_grow_d5877 : gM := (yJx4a65c_grow_d5877, cJx4a65c_grow_d5877, 1, (some (FieldType.array (FieldType.object "java/lang/Object"))), [])
def M_Jx4a65c_size_8abf5 : gM := (yJx4a65c_size_8abf5, cJx4a65c_size_8abf5, 1, (some FieldType.int), [])
def M_Jx4a65c_elementData_915e3 : gM := (yJx4a65c_elementData_915e3, cJx4a65c_elementData_915e3, 2, (some (FieldType.object "java/lang/Object")), [])
def M_Jx4a65c_get_915e3 : gM := (yJx4a65c_get_915e3, cJx4a65c_get_915e3, 2, (some (FieldType.object "java/lang/Object")), [])
def M_Jx4a65c_add_72be8 : gM := (yJx4a65c_add_72be8, cJx4a65c_add_72be8, 4, none, [])
def M_Jx4a65c_add_9ea2d : gM := (yJx4a65c_add_9ea2d, cJx4a65c_add_9ea2d, 2, (some FieldType.boolean), [])
def M_Jx4a65c_remove_915e3 : gM := (yJx4a65c_remove_915e3, cJx4a65c_remove_915e3, 4, (some (FieldType.object "java/lang/Object")), [])
def M_Jx4a65c_fastRemove_b59b0 : gM := (yJx4a65c_fastRemove_b59b0, cJx4a65c_fastRemove_b59b0, 4, none, [])
def M_Jx4a65c_clear_da8c8 : gM := (yJx4a65c_clear_da8c8, cJx4a65c_clear_da8c8, 4, none, [])
def M_J7_rangeCheck_23922 : gM := (yJ7_rangeCheck_23922, cJ7_rangeCheck_23922, 3, none, [])
def M_J7_fill_eb02e : gM := (yJ7_fill_eb02e, cJ7_fill_eb02e, 5, none, [])
def M_J7_copyOf_1904c : gM := (yJ7_copyOf_1904c, cJ7_copyOf_1904c, 2, (some (FieldType.array (FieldType.object "java/lang/Object"))), [])
def M_J7_copyOf_6403c : gM := (yJ7_copyOf_6403c, cJ7_copyOf_6403c, 4, (some (FieldType.array (FieldType.object "java/lang/Object"))), [])
def M_J7_copyOf_9075b : gM := (yJ7_copyOf_9075b, cJ7_copyOf_9075b, 3, (some (FieldType.array FieldType.byte)), [])
def M_J7_checkLength_df160 : gM := (yJ7_checkLength_df160, cJ7_checkLength_df160, 2, none, [])
def M_J7_copyOfRange_39247 : gM := (yJ7_copyOfRange_39247, cJ7_copyOfRange_39247, 3, (some (FieldType.array FieldType.byte)), [])
def M_J7_copyOfRangeByte_39247 : gM := (yJ7_copyOfRangeByte_39247, cJ7_copyOfRangeByte_39247, 5, (some (FieldType.array FieldType.byte)), [])
def M_J15_checkIndex_7cf53 : gM := (yJ15_checkIndex_7cf53, cJ15_checkIndex_7cf53, 2, (some FieldType.int), [])
def M_J8_newLength_cabcc : gM := (yJ8_newLength_cabcc, cJ8_newLength_cabcc, 4, (some FieldType.int), [])
def M_J8_hugeLength_7cf53 : gM := (yJ8_hugeLength_7cf53, cJ8_hugeLength_7cf53, 3, (some FieldType.int), [])
def M_J3_checkIndex_8e157 : gM := (yJ3_checkIndex_8e157, cJ3_checkIndex_8e157, 3, (some FieldType.int), [])
def M_J3_checkFromToIndex_8c36e : gM := (yJ3_checkFromToIndex_8c36e, cJ3_checkFromToIndex_8c36e, 4, (some FieldType.int), [])
def M_J3_checkFromIndexSize_8c36e : gM := (yJ3_checkFromIndexSize_8c36e, cJ3_checkFromIndexSize_8c36e, 4, (some FieldType.int), [])
def M_L_accept : gM := (yL_accept, cL_accept, 6, (some FieldType.int), [(0, 12, 15, 13), (0, 12, 19, 15)])
def M_L_addPrefix : gM := (yL_addPrefix, cL_addPrefix, 6, (some FieldType.int), [(0, 12, 15, 13), (0, 12, 19, 21), (0, 12, 23, 15)])
def M_L_removePrefix : gM := (yL_removePrefix, cL_removePrefix, 5, (some FieldType.int), [(0, 10, 13, 13), (0, 10, 17, 27)])
def M_L_sort : gM := (yL_sort, cL_sort, 4, (some FieldType.int), [(0, 9, 12, 27), (0, 9, 15, 15)])
def M_L_place : gM := (yL_place, cL_place, 5, (some FieldType.int), [(0, 10, 13, 27), (0, 10, 17, 21), (0, 10, 21, 15)])
def M_L_pull : gM := (yL_pull, cL_pull, 4, (some FieldType.int), [(0, 9, 12, 27), (0, 9, 15, 15)])
def M_L_setCutoff : gM := (yL_setCutoff, cL_setCutoff, 5, (some FieldType.int), [(0, 10, 13, 21), (0, 10, 17, 13)])
def M_L_setDeparture : gM := (yL_setDeparture, cL_setDeparture, 5, (some FieldType.int), [(0, 10, 13, 21), (0, 10, 17, 13)])
def M_L_pass : gM := (yL_pass, cL_pass, 4, (some FieldType.int), [(0, 9, 12, 13)])
def M_L_idAt : gM := (yL_idAt, cL_idAt, 4, (some FieldType.int), [(0, 9, 12, 21)])
def M_L_codeOf : gM := (yL_codeOf, cL_codeOf, 4, (some FieldType.int), [(0, 9, 12, 27)])
def M_L_weightOf : gM := (yL_weightOf, cL_weightOf, 4, (some FieldType.int), [(0, 9, 12, 27)])
def M_L_isPriority : gM := (yL_isPriority, cL_isPriority, 4, (some FieldType.int), [(0, 16, 19, 27)])
def M_L_returnsOf : gM := (yL_returnsOf, cL_returnsOf, 4, (some FieldType.int), [(0, 9, 12, 27)])
def M_L_isInTray : gM := (yL_isInTray, cL_isInTray, 4, (some FieldType.int), [(0, 16, 19, 27)])
def M_L_routeOfBag : gM := (yL_routeOfBag, cL_routeOfBag, 4, (some FieldType.int), [(0, 9, 12, 27), (0, 9, 15, 15)])
def M_L_bagOf : gM := (yL_bagOf, cL_bagOf, 4, (some FieldType.int), [(0, 9, 12, 27), (0, 9, 15, 15)])
def M_L_isMissorted : gM := (yL_isMissorted, cL_isMissorted, 4, (some FieldType.int), [(0, 16, 19, 27)])
def M_L_canSort : gM := (yL_canSort, cL_canSort, 4, (some FieldType.int), [(0, 16, 19, 27)])
def M_L_trayAt : gM := (yL_trayAt, cL_trayAt, 4, (some FieldType.int), [(0, 9, 12, 27)])
def M_L_hasPrefix : gM := (yL_hasPrefix, cL_hasPrefix, 5, (some FieldType.int), [(0, 17, 20, 13)])
def M_L_routeFor : gM := (yL_routeFor, cL_routeFor, 4, (some FieldType.int), [(0, 9, 12, 13), (0, 9, 15, 27)])
def M_L_routeForByTree : gM := (yL_routeForByTree, cL_routeForByTree, 4, (some FieldType.int), [(0, 9, 12, 13), (0, 9, 15, 27)])
def M_L_matchLength : gM := (yL_matchLength, cL_matchLength, 4, (some FieldType.int), [(0, 9, 12, 13)])
def M_L_codesOf : gM := (yL_codesOf, cL_codesOf, 4, (some FieldType.int), [(0, 9, 12, 21)])
def M_L_bagCount : gM := (yL_bagCount, cL_bagCount, 4, (some FieldType.int), [(0, 9, 12, 21)])
def M_L_bagWeight : gM := (yL_bagWeight, cL_bagWeight, 5, (some FieldType.int), [(0, 10, 13, 21), (0, 10, 17, 27)])
def M_L_lettersInBag : gM := (yL_lettersInBag, cL_lettersInBag, 5, (some FieldType.int), [(0, 10, 13, 21), (0, 10, 17, 27)])
def M_L_routeWeight : gM := (yL_routeWeight, cL_routeWeight, 4, (some FieldType.int), [(0, 9, 12, 21)])
def M_L_routeWeightByBags : gM := (yL_routeWeightByBags, cL_routeWeightByBags, 4, (some FieldType.int), [(0, 9, 12, 21)])
def M_L_cutoff : gM := (yL_cutoff, cL_cutoff, 4, (some FieldType.int), [(0, 9, 12, 21)])
def M_L_departure : gM := (yL_departure, cL_departure, 4, (some FieldType.int), [(0, 9, 12, 21)])
def M_L_hoursToDeparture : gM := (yL_hoursToDeparture, cL_hoursToDeparture, 4, (some FieldType.int), [(0, 9, 12, 21)])
def M_L_hoursToDelivery : gM := (yL_hoursToDelivery, cL_hoursToDelivery, 4, (some FieldType.int), [(0, 9, 12, 27), (0, 9, 15, 15)])
def M_L_hoursToDeliveryByHours : gM := (yL_hoursToDeliveryByHours, cL_hoursToDeliveryByHours, 4, (some FieldType.int), [(0, 9, 12, 27), (0, 9, 15, 15)])
def M_L_freeWeight : gM := (yL_freeWeight, cL_freeWeight, 4, (some FieldType.int), [(0, 9, 12, 21)])
def M_L_fullestBag : gM := (yL_fullestBag, cL_fullestBag, 4, (some FieldType.int), [(0, 9, 12, 21), (0, 9, 15, 27)])
def M_L_routeByWeight : gM := (yL_routeByWeight, cL_routeByWeight, 4, (some FieldType.int), [(0, 9, 12, 27)])
def M_L_meanWeight : gM := (yL_meanWeight, cL_meanWeight, 3, (some FieldType.int), [(0, 7, 10, 141)])
def M_L_deliveredShare : gM := (yL_deliveredShare, cL_deliveredShare, 3, (some FieldType.int), [(0, 8, 11, 141)])
def M_L_formatLetter : gM := (yL_formatLetter, cL_formatLetter, 4, (some FieldType.int), [(0, 9, 12, 27)])
def M_L_lineChar : gM := (yL_lineChar, cL_lineChar, 4, (some FieldType.int), [(0, 9, 12, 21)])
def M_L_append : gM := (yL_append, cL_append, 4, (some FieldType.int), [(0, 9, 12, 13), (0, 9, 15, 15)])
def M_L_run : gM := (yL_run, cL_run, 3, (some FieldType.int), [(0, 8, 11, 13), (0, 8, 14, 15)])
def M_L_errorPosition : gM := (yL_errorPosition, cL_errorPosition, 3, (some FieldType.int), [(0, 8, 11, 27)])
def M_L_failedCommand : gM := (yL_failedCommand, cL_failedCommand, 3, (some FieldType.int), [(0, 8, 11, 27)])
def M_L_undo : gM := (yL_undo, cL_undo, 3, (some FieldType.int), [(0, 8, 11, 15)])
def M_L_restore : gM := (yL_restore, cL_restore, 3, (some FieldType.int), [(0, 8, 11, 15)])
set_option maxRecDepth 100000 in
theorem fX1_9 : gFld RX1 9 5 0 (.object "MailOffice$Keyword") true := ⟨_, "MailOffice$Command", TX1, 4, tyX1, rfl, by decide, inGX1, (gIn (List.mem_of_getElem? (i := 1687) (by decide +kernel)) (by decide +kernel)), Or.inl rfl, tyX1_ok, nmX1, rfl, rfl⟩
set_option maxRecDepth 100000 in
theorem fX1_15 : gFld RX1 15 5 1 (.int) true := ⟨_, "MailOffice$Command", TX1, 4, tyX1, rfl, by decide, inGX1, (gIn (List.mem_of_getElem? (i := 1688) (by decide +kernel)) (by decide +kernel)), Or.inl rfl, tyX1_ok, nmX1, rfl, rfl⟩
set_option maxRecDepth 100000 in
theorem fX1_19 : gFld RX1 19 5 2 (.int) true := ⟨_, "MailOffice$Command", TX1, 4, tyX1, rfl, by decide, inGX1, (gIn (List.mem_of_getElem? (i := 1689) (by decide +kernel)) (by decide +kernel)), Or.inl rfl, tyX1_ok, nmX1, rfl, rfl⟩
set_option maxRecDepth 100000 in
theorem fX1_22 : gFld RX1 22 5 3 (.int) true := ⟨_, "MailOffice$Command", TX1, 4, tyX1, rfl, by decide, inGX1, (gIn (List.mem_of_getElem? (i := 1690) (by decide +kernel)) (by decide +kernel)), Or.inl rfl, tyX1_ok, nmX1, rfl, rfl⟩
set_option maxRecDepth 100000 in
theorem kX1_37 : gLkV RX1 37 7 M_X4_takeIn 3 := ⟨TX4, 11, rfl, (gIn (List.mem_of_getElem? (i := 1715) (by decide +kernel)) (by decide +kernel)), (gIn (List.mem_of_getElem? (i := 824) (by decide +kernel)) (by decide +kernel)), (gIn (List.mem_of_getElem? (i := 825) (by decide +kernel)) (by decide +kernel)), (gIn (List.mem_of_getElem? (i := 82) (by decide +kernel)) (by decide +kernel)), (gIn (List.mem_of_getElem? (i := 826) (by decide +kernel)) (by decide +kernel)), rfl, ⟨by decide +kernel, by decide +kernel, by decide +kernel⟩⟩
set_option maxRecDepth 100000 in
theorem fX1_43 : gFld RX1 43 7 1 (.object "MailOffice$RoutingTable") true := ⟨_, "MailOffice$Office", TX4, 11, tyX4, rfl, by decide, inGX4, (gIn (List.mem_of_getElem? (i := 215) (by decide +kernel)) (by decide +kernel)), Or.inl rfl, tyX4_ok, nmX4, rfl, rfl⟩
set_option maxRecDepth 100000 in
theorem kX1_47 : gLkV RX1 47 11 M_X8_enter 3 := ⟨TX8, 2, rfl, (gIn (List.mem_of_getElem? (i := 1716) (by decide +kernel)) (by decide +kernel)), (gIn (List.mem_of_getElem? (i := 860) (by decide +kernel)) (by decide +kernel)), (gIn (List.mem_of_getElem? (i := 861) (by decide +kernel)) (by decide +kernel)), (gIn (List.mem_of_getElem? (i := 86) (by decide +kernel)) (by decide +kernel)), (gIn (List.mem_of_getElem? (i := 862) (by decide +kernel)) (by decide +kernel)), rfl, ⟨by decide +kernel, by decide +kernel, by decide +kernel⟩⟩
set_option maxRecDepth 100000 in
theorem kX1_53 : gLkV RX1 53 11 M_X8_strike 2 := ⟨TX8, 2, rfl, (gIn (List.mem_of_getElem? (i := 1717) (by decide +kernel)) (by decide +kernel)), (gIn (List.mem_of_getElem? (i := 881) (by decide +kernel)) (by decide +kernel)), (gIn (List.mem_of_getElem? (i := 882) (by decide +kernel)) (by decide +kernel)), (gIn (List.mem_of_getElem? (i := 86) (by decide +kernel)) (by decide +kernel)), (gIn (List.mem_of_getElem? (i := 883) (by decide +kernel)) (by decide +kernel)), rfl, ⟨by decide +kernel, by decide +kernel, by decide +kernel⟩⟩
set_option maxRecDepth 100000 in
theorem kX1_57 : gLkV RX1 57 7 M_X4_sortTray 0 := ⟨TX4, 11, rfl, (gIn (List.mem_of_getElem? (i := 1718) (by decide +kernel)) (by decide +kernel)), (gIn (List.mem_of_getElem? (i := 487) (by decide +kernel)) (by decide +kernel)), (gIn (List.mem_of_getElem? (i := 488) (by decide +kernel)) (by decide +kernel)), (gIn (List.mem_of_getElem? (i := 82) (by decide +kernel)) (by decide +kernel)), (gIn (List.mem_of_getElem? (i := 489) (by decide +kernel)) (by decide +kernel)), rfl, ⟨by decide +kernel, by decide +kernel, by decide +kernel⟩⟩
set_option maxRecDepth 100000 in
theorem kX1_60 : gLkV RX1 60 7 M_X4_sortById 1 := ⟨TX4, 11, rfl, (gIn (List.mem_of_getElem? (i := 1719) (by decide +kernel)) (by decide +kernel)), (gIn (List.mem_of_getElem? (i := 893) (by decide +kernel)) (by decide +kernel)), (gIn (List.mem_of_getElem? (i := 894) (by decide +kernel)) (by decide +kernel)), (gIn (List.mem_of_getElem? (i := 82) (by decide +kernel)) (by decide +kernel)), (gIn (List.mem_of_getElem? (i := 895) (by decide +kernel)) (by decide +kernel)), rfl, ⟨by decide +kernel, by decide +kernel, by decide +kernel⟩⟩
set_option maxRecDepth 100000 in
theorem kX1_64 : gLkV RX1 64 7 M_X4_placeById 2 := ⟨TX4, 11, rfl, (gIn (List.mem_of_getElem? (i := 1720) (by decide +kernel)) (by decide +kernel)), (gIn (List.mem_of_getElem? (i := 905) (by decide +kernel)) (by decide +kernel)), (gIn (List.mem_of_getElem? (i := 906) (by decide +kernel)) (by decide +kernel)), (gIn (List.mem_of_getElem? (i := 82) (by decide +kernel)) (by decide +kernel)), (gIn (List.mem_of_getElem? (i := 907) (by decide +kernel)) (by decide +kernel)), rfl, ⟨by decide +kernel, by decide +kernel, by decide +kernel⟩⟩
set_option maxRecDepth 100000 in
theorem kX1_67 : gLkV RX1 67 7 M_X4_takeOut 1 := ⟨TX4, 11, rfl, (gIn (List.mem_of_getElem? (i := 1721) (by decide +kernel)) (by decide +kernel)), (gIn (List.mem_of_getElem? (i := 916) (by decide +kernel)) (by decide +kernel)), (gIn (List.mem_of_getElem? (i := 917) (by decide +kernel)) (by decide +kernel)), (gIn (List.mem_of_getElem? (i := 82) (by decide +kernel)) (by decide +kernel)), (gIn (List.mem_of_getElem? (i := 918) (by decide +kernel)) (by decide +kernel)), rfl, ⟨by decide +kernel, by decide +kernel, by decide +kernel⟩⟩
set_option maxRecDepth 100000 in
theorem kX1_70 : gLkV RX1 70 7 M_X4_changeCutoff 2 := ⟨TX4, 11, rfl, (gIn (List.mem_of_getElem? (i := 1722) (by decide +kernel)) (by decide +kernel)), (gIn (List.mem_of_getElem? (i := 931) (by decide +kernel)) (by decide +kernel)), (gIn (List.mem_of_getElem? (i := 932) (by decide +kernel)) (by decide +kernel)), (gIn (List.mem_of_getElem? (i := 82) (by decide +kernel)) (by decide +kernel)), (gIn (List.mem_of_getElem? (i := 933) (by decide +kernel)) (by decide +kernel)), rfl, ⟨by decide +kernel, by decide +kernel, by decide +kernel⟩⟩
set_option maxRecDepth 100000 in
theorem kX1_73 : gLkV RX1 73 7 M_X4_changeDeparture 2 := ⟨TX4, 11, rfl, (gIn (List.mem_of_getElem? (i := 1723) (by decide +kernel)) (by decide +kernel)), (gIn (List.mem_of_getElem? (i := 942) (by decide +kernel)) (by decide +kernel)), (gIn (List.mem_of_getElem? (i := 943) (by decide +kernel)) (by decide +kernel)), (gIn (List.mem_of_getElem? (i := 82) (by decide +kernel)) (by decide +kernel)), (gIn (List.mem_of_getElem? (i := 944) (by decide +kernel)) (by decide +kernel)), rfl, ⟨by decide +kernel, by decide +kernel, by decide +kernel⟩⟩
set_option maxRecDepth 100000 in
theorem kX1_76 : gLkV RX1 76 7 M_X4_passHours 1 := ⟨TX4, 11, rfl, (gIn (List.mem_of_getElem? (i := 1724) (by decide +kernel)) (by decide +kernel)), (gIn (List.mem_of_getElem? (i := 953) (by decide +kernel)) (by decide +kernel)), (gIn (List.mem_of_getElem? (i := 954) (by decide +kernel)) (by decide +kernel)), (gIn (List.mem_of_getElem? (i := 82) (by decide +kernel)) (by decide +kernel)), (gIn (List.mem_of_getElem? (i := 955) (by decide +kernel)) (by decide +kernel)), rfl, ⟨by decide +kernel, by decide +kernel, by decide +kernel⟩⟩
set_option maxRecDepth 100000 in
theorem fX3_9 : gFld RX3 9 6 4 (.int) false := ⟨_, "MailOffice$Letter", TX3, 7, tyX3, rfl, by decide, inGX3, (gIn (List.mem_of_getElem? (i := 389) (by decide +kernel)) (by decide +kernel)), Or.inl rfl, tyX3_ok, nmX3, rfl, rfl⟩
set_option maxRecDepth 100000 in
theorem fX3_15 : gFld RX3 15 6 5 (.int) false := ⟨_, "MailOffice$Letter", TX3, 7, tyX3, rfl, by decide, inGX3, (gIn (List.mem_of_getElem? (i := 392) (by decide +kernel)) (by decide +kernel)), Or.inl rfl, tyX3_ok, nmX3, rfl, rfl⟩
set_option maxRecDepth 100000 in
theorem fX3_18 : gFld RX3 18 6 6 (.int) false := ⟨_, "MailOffice$Letter", TX3, 7, tyX3, rfl, by decide, inGX3, (gIn (List.mem_of_getElem? (i := 395) (by decide +kernel)) (by decide +kernel)), Or.inl rfl, tyX3_ok, nmX3, rfl, rfl⟩
set_option maxRecDepth 100000 in
theorem fX3_21 : gFld RX3 21 6 0 (.int) true := ⟨_, "MailOffice$Letter", TX3, 7, tyX3, rfl, by decide, inGX3, (gIn (List.mem_of_getElem? (i := 377) (by decide +kernel)) (by decide +kernel)), Or.inl rfl, tyX3_ok, nmX3, rfl, rfl⟩
set_option maxRecDepth 100000 in
theorem fX3_24 : gFld RX3 24 6 1 (.int) true := ⟨_, "MailOffice$Letter", TX3, 7, tyX3, rfl, by decide, inGX3, (gIn (List.mem_of_getElem? (i := 380) (by decide +kernel)) (by decide +kernel)), Or.inl rfl, tyX3_ok, nmX3, rfl, rfl⟩
set_option maxRecDepth 100000 in
theorem fX3_27 : gFld RX3 27 6 2 (.int) true := ⟨_, "MailOffice$Letter", TX3, 7, tyX3, rfl, by decide, inGX3, (gIn (List.mem_of_getElem? (i := 383) (by decide +kernel)) (by decide +kernel)), Or.inl rfl, tyX3_ok, nmX3, rfl, rfl⟩
set_option maxRecDepth 100000 in
theorem fX3_30 : gFld RX3 30 6 3 (.boolean) true := ⟨_, "MailOffice$Letter", TX3, 7, tyX3, rfl, by decide, inGX3, (gIn (List.mem_of_getElem? (i := 386) (by decide +kernel)) (by decide +kernel)), Or.inl rfl, tyX3_ok, nmX3, rfl, rfl⟩
set_option maxRecDepth 100000 in
theorem kX3_34 : gLkI RX3 34 M_X3_init 4 := ⟨(gIn (List.mem_of_getElem? (i := 373) (by decide +kernel)) (by decide +kernel)), rfl, rfl, (gIn (List.mem_of_getElem? (i := 374) (by decide +kernel)) (by decide +kernel)), (gIn (List.mem_of_getElem? (i := 96) (by decide +kernel)) (by decide +kernel)), (gIn (List.mem_of_getElem? (i := 375) (by decide +kernel)) (by decide +kernel)), rfl, ⟨by decide +kernel, by decide +kernel, by decide +kernel⟩⟩
set_option maxRecDepth 100000 in
theorem kX3_37 : gLkV RX3 37 6 M_X3_moveToTray 0 := ⟨TX3, 7, rfl, (gIn (List.mem_of_getElem? (i := 969) (by decide +kernel)) (by decide +kernel)), (gIn (List.mem_of_getElem? (i := 920) (by decide +kernel)) (by decide +kernel)), (gIn (List.mem_of_getElem? (i := 921) (by decide +kernel)) (by decide +kernel)), (gIn (List.mem_of_getElem? (i := 96) (by decide +kernel)) (by decide +kernel)), (gIn (List.mem_of_getElem? (i := 922) (by decide +kernel)) (by decide +kernel)), rfl, ⟨by decide +kernel, by decide +kernel, by decide +kernel⟩⟩
set_option maxRecDepth 100000 in
theorem kX3_40 : gLkV RX3 40 1 M_J4_append_cf468 1 := ⟨TJ4, 4, rfl, (gIn (List.mem_of_getElem? (i := 1541) (by decide +kernel)) (by decide +kernel)), (gIn (List.mem_of_getElem? (i := 1542) (by decide +kernel)) (by decide +kernel)), (gIn (List.mem_of_getElem? (i := 1543) (by decide +kernel)) (by decide +kernel)), (gIn (List.mem_of_getElem? (i := 90) (by decide +kernel)) (by decide +kernel)), (gIn (List.mem_of_getElem? (i := 1544) (by decide +kernel)) (by decide +kernel)), rfl, ⟨by decide +kernel, by decide +kernel, by decide +kernel⟩⟩
set_option maxRecDepth 100000 in
theorem kX3_46 : gLkV RX3 46 1 M_J4_append_bf812 1 := ⟨TJ4, 4, rfl, (gIn (List.mem_of_getElem? (i := 1561) (by decide +kernel)) (by decide +kernel)), (gIn (List.mem_of_getElem? (i := 1416) (by decide +kernel)) (by decide +kernel)), (gIn (List.mem_of_getElem? (i := 1417) (by decide +kernel)) (by decide +kernel)), (gIn (List.mem_of_getElem? (i := 90) (by decide +kernel)) (by decide +kernel)), (gIn (List.mem_of_getElem? (i := 1418) (by decide +kernel)) (by decide +kernel)), rfl, ⟨by decide +kernel, by decide +kernel, by decide +kernel⟩⟩
set_option maxRecDepth 100000 in
theorem kX3_49 : gLkV RX3 49 6 M_X3_inTray 0 := ⟨TX3, 7, rfl, (gIn (List.mem_of_getElem? (i := 1562) (by decide +kernel)) (by decide +kernel)), (gIn (List.mem_of_getElem? (i := 499) (by decide +kernel)) (by decide +kernel)), (gIn (List.mem_of_getElem? (i := 500) (by decide +kernel)) (by decide +kernel)), (gIn (List.mem_of_getElem? (i := 96) (by decide +kernel)) (by decide +kernel)), (gIn (List.mem_of_getElem? (i := 501) (by decide +kernel)) (by decide +kernel)), rfl, ⟨by decide +kernel, by decide +kernel, by decide +kernel⟩⟩
set_option maxRecDepth 100000 in
theorem kX3_55 : gLkV RX3 55 1 M_J4_append_15ec4 1 := ⟨TJ4, 4, rfl, (gIn (List.mem_of_getElem? (i := 1564) (by decide +kernel)) (by decide +kernel)), (gIn (List.mem_of_getElem? (i := 1311) (by decide +kernel)) (by decide +kernel)), (gIn (List.mem_of_getElem? (i := 1312) (by decide +kernel)) (by decide +kernel)), (gIn (List.mem_of_getElem? (i := 90) (by decide +kernel)) (by decide +kernel)), (gIn (List.mem_of_getElem? (i := 1313) (by decide +kernel)) (by decide +kernel)), rfl, ⟨by decide +kernel, by decide +kernel, by decide +kernel⟩⟩
set_option maxRecDepth 100000 in
theorem kX4_11 : gLkI RX4 11 M_Jx4a65c_init_da8c8 0 := ⟨(gIn (List.mem_of_getElem? (i := 135) (by decide +kernel)) (by decide +kernel)), rfl, rfl, (gIn (List.mem_of_getElem? (i := 136) (by decide +kernel)) (by decide +kernel)), (gIn (List.mem_of_getElem? (i := 85) (by decide +kernel)) (by decide +kernel)), (gIn (List.mem_of_getElem? (i := 137) (by decide +kernel)) (by decide +kernel)), rfl, ⟨by decide +kernel, by decide +kernel, by decide +kernel⟩⟩
set_option maxRecDepth 100000 in
theorem fX4_12 : gFld RX4 12 7 0 (.object "java/util/ArrayList") true := ⟨_, "MailOffice$Office", TX4, 11, tyX4, rfl, by decide, inGX4, (gIn (List.mem_of_getElem? (i := 212) (by decide +kernel)) (by decide +kernel)), Or.inl rfl, tyX4_ok, nmX4, rfl, rfl⟩
set_option maxRecDepth 100000 in
theorem kX4_20 : gLkIN RX4 "MailOffice" 20 M_X8_init 0 := ⟨(gInF (List.mem_of_getElem? (i := 161) (by decide +kernel)) (by decide +kernel)), rfl, rfl, (gIn (List.mem_of_getElem? (i := 162) (by decide +kernel)) (by decide +kernel)), (gIn (List.mem_of_getElem? (i := 86) (by decide +kernel)) (by decide +kernel)), (gIn (List.mem_of_getElem? (i := 163) (by decide +kernel)) (by decide +kernel)), rfl, ⟨by decide +kernel, by decide +kernel, by decide +kernel⟩⟩
set_option maxRecDepth 100000 in
theorem fX4_21 : gFld RX4 21 7 1 (.object "MailOffice$RoutingTable") true := ⟨_, "MailOffice$Office", TX4, 11, tyX4, rfl, by decide, inGX4, (gIn (List.mem_of_getElem? (i := 214) (by decide +kernel)) (by decide +kernel)), Or.inl rfl, tyX4_ok, nmX4, rfl, rfl⟩
set_option maxRecDepth 100000 in
theorem fX4_25 : gFld RX4 25 7 2 (.array .int) true := ⟨_, "MailOffice$Office", TX4, 11, tyX4, rfl, by decide, inGX4, (gIn (List.mem_of_getElem? (i := 217) (by decide +kernel)) (by decide +kernel)), Or.inl rfl, tyX4_ok, nmX4, rfl, rfl⟩
set_option maxRecDepth 100000 in
theorem fX4_29 : gFld RX4 29 7 3 (.array .int) true := ⟨_, "MailOffice$Office", TX4, 11, tyX4, rfl, by decide, inGX4, (gIn (List.mem_of_getElem? (i := 219) (by decide +kernel)) (by decide +kernel)), Or.inl rfl, tyX4_ok, nmX4, rfl, rfl⟩
set_option maxRecDepth 100000 in
theorem fX4_32 : gFld RX4 32 7 4 (.array .int) true := ⟨_, "MailOffice$Office", TX4, 11, tyX4, rfl, by decide, inGX4, (gIn (List.mem_of_getElem? (i := 221) (by decide +kernel)) (by decide +kernel)), Or.inl rfl, tyX4_ok, nmX4, rfl, rfl⟩
set_option maxRecDepth 100000 in
theorem fX4_35 : gFld RX4 35 7 5 (.int) false := ⟨_, "MailOffice$Office", TX4, 11, tyX4, rfl, by decide, inGX4, (gIn (List.mem_of_getElem? (i := 222) (by decide +kernel)) (by decide +kernel)), Or.inl rfl, tyX4_ok, nmX4, rfl, rfl⟩
set_option maxRecDepth 100000 in
theorem fX4_39 : gFld RX4 39 7 6 (.int) false := ⟨_, "MailOffice$Office", TX4, 11, tyX4, rfl, by decide, inGX4, (gIn (List.mem_of_getElem? (i := 224) (by decide +kernel)) (by decide +kernel)), Or.inl rfl, tyX4_ok, nmX4, rfl, rfl⟩
set_option maxRecDepth 100000 in
theorem fX4_42 : gFld RX4 42 7 7 (.int) false := ⟨_, "MailOffice$Office", TX4, 11, tyX4, rfl, by decide, inGX4, (gIn (List.mem_of_getElem? (i := 226) (by decide +kernel)) (by decide +kernel)), Or.inl rfl, tyX4_ok, nmX4, rfl, rfl⟩
set_option maxRecDepth 100000 in
theorem fX4_45 : gFld RX4 45 7 8 (.int) false := ⟨_, "MailOffice$Office", TX4, 11, tyX4, rfl, by decide, inGX4, (gIn (List.mem_of_getElem? (i := 228) (by decide +kernel)) (by decide +kernel)), Or.inl rfl, tyX4_ok, nmX4, rfl, rfl⟩
set_option maxRecDepth 100000 in
theorem fX4_48 : gFld RX4 48 7 9 (.int) false := ⟨_, "MailOffice$Office", TX4, 11, tyX4, rfl, by decide, inGX4, (gIn (List.mem_of_getElem? (i := 230) (by decide +kernel)) (by decide +kernel)), Or.inl rfl, tyX4_ok, nmX4, rfl, rfl⟩
set_option maxRecDepth 100000 in
theorem fX4_51 : gFld RX4 51 7 10 (.int) false := ⟨_, "MailOffice$Office", TX4, 11, tyX4, rfl, by decide, inGX4, (gIn (List.mem_of_getElem? (i := 232) (by decide +kernel)) (by decide +kernel)), Or.inl rfl, tyX4_ok, nmX4, rfl, rfl⟩
set_option maxRecDepth 100000 in
theorem kX4_54 : gLkI RX4 54 M_X4_init 0 := ⟨(gIn (List.mem_of_getElem? (i := 347) (by decide +kernel)) (by decide +kernel)), rfl, rfl, (gIn (List.mem_of_getElem? (i := 130) (by decide +kernel)) (by decide +kernel)), (gIn (List.mem_of_getElem? (i := 82) (by decide +kernel)) (by decide +kernel)), (gIn (List.mem_of_getElem? (i := 131) (by decide +kernel)) (by decide +kernel)), rfl, ⟨by decide +kernel, by decide +kernel, by decide +kernel⟩⟩
set_option maxRecDepth 100000 in
theorem kX4_55 : gLkV RX4 55 4 M_Jx4a65c_size_8abf5 0 := ⟨TJx4a65c, 3, rfl, (gIn (List.mem_of_getElem? (i := 348) (by decide +kernel)) (by decide +kernel)), (gIn (List.mem_of_getElem? (i := 349) (by decide +kernel)) (by decide +kernel)), (gIn (List.mem_of_getElem? (i := 350) (by decide +kernel)) (by decide +kernel)), (gIn (List.mem_of_getElem? (i := 85) (by decide +kernel)) (by decide +kernel)), (gIn (List.mem_of_getElem? (i := 351) (by decide +kernel)) (by decide +kernel)), rfl, ⟨by decide +kernel, by decide +kernel, by decide +kernel⟩⟩
set_option maxRecDepth 100000 in
theorem kX4_59 : gLkV RX4 59 4 M_Jx4a65c_get_915e3 1 := ⟨TJx4a65c, 3, rfl, (gIn (List.mem_of_getElem? (i := 352) (by decide +kernel)) (by decide +kernel)), (gIn (List.mem_of_getElem? (i := 353) (by decide +kernel)) (by decide +kernel)), (gIn (List.mem_of_getElem? (i := 354) (by decide +kernel)) (by decide +kernel)), (gIn (List.mem_of_getElem? (i := 85) (by decide +kernel)) (by decide +kernel)), (gIn (List.mem_of_getElem? (i := 355) (by decide +kernel)) (by decide +kernel)), rfl, ⟨by decide +kernel, by decide +kernel, by decide +kernel⟩⟩
set_option maxRecDepth 100000 in
theorem kX4_65 : gLkV RX4 65 6 M_X3_duplicate 0 := ⟨TX3, 7, rfl, (gIn (List.mem_of_getElem? (i := 367) (by decide +kernel)) (by decide +kernel)), (gIn (List.mem_of_getElem? (i := 368) (by decide +kernel)) (by decide +kernel)), (gIn (List.mem_of_getElem? (i := 369) (by decide +kernel)) (by decide +kernel)), (gIn (List.mem_of_getElem? (i := 96) (by decide +kernel)) (by decide +kernel)), (gIn (List.mem_of_getElem? (i := 370) (by decide +kernel)) (by decide +kernel)), rfl, ⟨by decide +kernel, by decide +kernel, by decide +kernel⟩⟩
set_option maxRecDepth 100000 in
theorem kX4_69 : gLkV RX4 69 4 M_Jx4a65c_add_9ea2d 1 := ⟨TJx4a65c, 3, rfl, (gIn (List.mem_of_getElem? (i := 412) (by decide +kernel)) (by decide +kernel)), (gIn (List.mem_of_getElem? (i := 413) (by decide +kernel)) (by decide +kernel)), (gIn (List.mem_of_getElem? (i := 414) (by decide +kernel)) (by decide +kernel)), (gIn (List.mem_of_getElem? (i := 85) (by decide +kernel)) (by decide +kernel)), (gIn (List.mem_of_getElem? (i := 415) (by decide +kernel)) (by decide +kernel)), rfl, ⟨by decide +kernel, by decide +kernel, by decide +kernel⟩⟩
set_option maxRecDepth 100000 in
theorem kX4_73 : gLkV RX4 73 11 M_X8_copyInto 1 := ⟨TX8, 2, rfl, (gIn (List.mem_of_getElem? (i := 479) (by decide +kernel)) (by decide +kernel)), (gIn (List.mem_of_getElem? (i := 480) (by decide +kernel)) (by decide +kernel)), (gIn (List.mem_of_getElem? (i := 481) (by decide +kernel)) (by decide +kernel)), (gIn (List.mem_of_getElem? (i := 86) (by decide +kernel)) (by decide +kernel)), (gIn (List.mem_of_getElem? (i := 482) (by decide +kernel)) (by decide +kernel)), rfl, ⟨by decide +kernel, by decide +kernel, by decide +kernel⟩⟩
set_option maxRecDepth 100000 in
theorem kX4_77 : gLkSN RX4 "MailOffice" 77 M_X9_isCode 1 := ⟨(gInF (List.mem_of_getElem? (i := 827) (by decide +kernel)) (by decide +kernel)), (gIn (List.mem_of_getElem? (i := 828) (by decide +kernel)) (by decide +kernel)), (gIn (List.mem_of_getElem? (i := 81) (by decide +kernel)) (by decide +kernel)), (gIn (List.mem_of_getElem? (i := 829) (by decide +kernel)) (by decide +kernel)), rfl, ⟨by decide +kernel, by decide +kernel, by decide +kernel⟩⟩
set_option maxRecDepth 100000 in
theorem kX4_81 : gLkI RX4 81 M_X3_init 4 := ⟨(gIn (List.mem_of_getElem? (i := 830) (by decide +kernel)) (by decide +kernel)), rfl, rfl, (gIn (List.mem_of_getElem? (i := 374) (by decide +kernel)) (by decide +kernel)), (gIn (List.mem_of_getElem? (i := 96) (by decide +kernel)) (by decide +kernel)), (gIn (List.mem_of_getElem? (i := 375) (by decide +kernel)) (by decide +kernel)), rfl, ⟨by decide +kernel, by decide +kernel, by decide +kernel⟩⟩
set_option maxRecDepth 100000 in
theorem fX4_84 : gFld RX4 84 6 0 (.int) true := ⟨_, "MailOffice$Letter", TX3, 7, tyX3, rfl, by decide, inGX3, (gIn (List.mem_of_getElem? (i := 378) (by decide +kernel)) (by decide +kernel)), Or.inl rfl, tyX3_ok, nmX3, rfl, rfl⟩
set_option maxRecDepth 100000 in
theorem kX4_87 : gLkV RX4 87 7 M_X4_letterWith 1 := ⟨TX4, 11, rfl, (gIn (List.mem_of_getElem? (i := 896) (by decide +kernel)) (by decide +kernel)), (gIn (List.mem_of_getElem? (i := 699) (by decide +kernel)) (by decide +kernel)), (gIn (List.mem_of_getElem? (i := 700) (by decide +kernel)) (by decide +kernel)), (gIn (List.mem_of_getElem? (i := 82) (by decide +kernel)) (by decide +kernel)), (gIn (List.mem_of_getElem? (i := 701) (by decide +kernel)) (by decide +kernel)), rfl, ⟨by decide +kernel, by decide +kernel, by decide +kernel⟩⟩
set_option maxRecDepth 100000 in
theorem kX4_91 : gLkV RX4 91 7 M_X4_putByCode 1 := ⟨TX4, 11, rfl, (gIn (List.mem_of_getElem? (i := 502) (by decide +kernel)) (by decide +kernel)), (gIn (List.mem_of_getElem? (i := 504) (by decide +kernel)) (by decide +kernel)), (gIn (List.mem_of_getElem? (i := 4) (by decide +kernel)) (by decide +kernel)), (gIn (List.mem_of_getElem? (i := 82) (by decide +kernel)) (by decide +kernel)), (gIn (List.mem_of_getElem? (i := 505) (by decide +kernel)) (by decide +kernel)), rfl, ⟨by decide +kernel, by decide +kernel, by decide +kernel⟩⟩
set_option maxRecDepth 100000 in
theorem kX4_95 : gLkSN RX4 "MailOffice" 95 M_X9_isRoute 1 := ⟨(gInF (List.mem_of_getElem? (i := 522) (by decide +kernel)) (by decide +kernel)), (gIn (List.mem_of_getElem? (i := 523) (by decide +kernel)) (by decide +kernel)), (gIn (List.mem_of_getElem? (i := 81) (by decide +kernel)) (by decide +kernel)), (gIn (List.mem_of_getElem? (i := 524) (by decide +kernel)) (by decide +kernel)), rfl, ⟨by decide +kernel, by decide +kernel, by decide +kernel⟩⟩
set_option maxRecDepth 100000 in
theorem kX4_98 : gLkV RX4 98 7 M_X4_put 2 := ⟨TX4, 11, rfl, (gIn (List.mem_of_getElem? (i := 514) (by decide +kernel)) (by decide +kernel)), (gIn (List.mem_of_getElem? (i := 516) (by decide +kernel)) (by decide +kernel)), (gIn (List.mem_of_getElem? (i := 6) (by decide +kernel)) (by decide +kernel)), (gIn (List.mem_of_getElem? (i := 82) (by decide +kernel)) (by decide +kernel)), (gIn (List.mem_of_getElem? (i := 517) (by decide +kernel)) (by decide +kernel)), rfl, ⟨by decide +kernel, by decide +kernel, by decide +kernel⟩⟩
set_option maxRecDepth 100000 in
theorem kX4_102 : gLkV RX4 102 6 M_X3_inTray 0 := ⟨TX3, 7, rfl, (gIn (List.mem_of_getElem? (i := 498) (by decide +kernel)) (by decide +kernel)), (gIn (List.mem_of_getElem? (i := 499) (by decide +kernel)) (by decide +kernel)), (gIn (List.mem_of_getElem? (i := 500) (by decide +kernel)) (by decide +kernel)), (gIn (List.mem_of_getElem? (i := 96) (by decide +kernel)) (by decide +kernel)), (gIn (List.mem_of_getElem? (i := 501) (by decide +kernel)) (by decide +kernel)), rfl, ⟨by decide +kernel, by decide +kernel, by decide +kernel⟩⟩
set_option maxRecDepth 100000 in
theorem fX4_106 : gFld RX4 106 6 5 (.int) false := ⟨_, "MailOffice$Letter", TX3, 7, tyX3, rfl, by decide, inGX3, (gIn (List.mem_of_getElem? (i := 393) (by decide +kernel)) (by decide +kernel)), Or.inl rfl, tyX3_ok, nmX3, rfl, rfl⟩
set_option maxRecDepth 100000 in
theorem kX4_109 : gLkV RX4 109 6 M_X3_moveToTray 0 := ⟨TX3, 7, rfl, (gIn (List.mem_of_getElem? (i := 919) (by decide +kernel)) (by decide +kernel)), (gIn (List.mem_of_getElem? (i := 920) (by decide +kernel)) (by decide +kernel)), (gIn (List.mem_of_getElem? (i := 921) (by decide +kernel)) (by decide +kernel)), (gIn (List.mem_of_getElem? (i := 96) (by decide +kernel)) (by decide +kernel)), (gIn (List.mem_of_getElem? (i := 922) (by decide +kernel)) (by decide +kernel)), rfl, ⟨by decide +kernel, by decide +kernel, by decide +kernel⟩⟩
set_option maxRecDepth 100000 in
theorem kX4_112 : gLkV RX4 112 7 M_X4_orderedTray 0 := ⟨TX4, 11, rfl, (gIn (List.mem_of_getElem? (i := 490) (by decide +kernel)) (by decide +kernel)), (gIn (List.mem_of_getElem? (i := 491) (by decide +kernel)) (by decide +kernel)), (gIn (List.mem_of_getElem? (i := 492) (by decide +kernel)) (by decide +kernel)), (gIn (List.mem_of_getElem? (i := 82) (by decide +kernel)) (by decide +kernel)), (gIn (List.mem_of_getElem? (i := 493) (by decide +kernel)) (by decide +kernel)), rfl, ⟨by decide +kernel, by decide +kernel, by decide +kernel⟩⟩
set_option maxRecDepth 100000 in
theorem kX4_116 : gLkV RX4 116 7 M_X4_routeByCode 1 := ⟨TX4, 11, rfl, (gIn (List.mem_of_getElem? (i := 506) (by decide +kernel)) (by decide +kernel)), (gIn (List.mem_of_getElem? (i := 508) (by decide +kernel)) (by decide +kernel)), (gIn (List.mem_of_getElem? (i := 5) (by decide +kernel)) (by decide +kernel)), (gIn (List.mem_of_getElem? (i := 82) (by decide +kernel)) (by decide +kernel)), (gIn (List.mem_of_getElem? (i := 509) (by decide +kernel)) (by decide +kernel)), rfl, ⟨by decide +kernel, by decide +kernel, by decide +kernel⟩⟩
set_option maxRecDepth 100000 in
theorem kX4_119 : gLkV RX4 119 7 M_X4_bagFor 2 := ⟨TX4, 11, rfl, (gIn (List.mem_of_getElem? (i := 518) (by decide +kernel)) (by decide +kernel)), (gIn (List.mem_of_getElem? (i := 520) (by decide +kernel)) (by decide +kernel)), (gIn (List.mem_of_getElem? (i := 7) (by decide +kernel)) (by decide +kernel)), (gIn (List.mem_of_getElem? (i := 82) (by decide +kernel)) (by decide +kernel)), (gIn (List.mem_of_getElem? (i := 521) (by decide +kernel)) (by decide +kernel)), rfl, ⟨by decide +kernel, by decide +kernel, by decide +kernel⟩⟩
set_option maxRecDepth 100000 in
theorem kX4_122 : gLkV RX4 122 6 M_X3_moveToBag 2 := ⟨TX3, 7, rfl, (gIn (List.mem_of_getElem? (i := 537) (by decide +kernel)) (by decide +kernel)), (gIn (List.mem_of_getElem? (i := 538) (by decide +kernel)) (by decide +kernel)), (gIn (List.mem_of_getElem? (i := 539) (by decide +kernel)) (by decide +kernel)), (gIn (List.mem_of_getElem? (i := 96) (by decide +kernel)) (by decide +kernel)), (gIn (List.mem_of_getElem? (i := 540) (by decide +kernel)) (by decide +kernel)), rfl, ⟨by decide +kernel, by decide +kernel, by decide +kernel⟩⟩
set_option maxRecDepth 100000 in
theorem kX4_126 : gLkV RX4 126 7 M_X4_isLate 2 := ⟨TX4, 11, rfl, (gIn (List.mem_of_getElem? (i := 525) (by decide +kernel)) (by decide +kernel)), (gIn (List.mem_of_getElem? (i := 527) (by decide +kernel)) (by decide +kernel)), (gIn (List.mem_of_getElem? (i := 8) (by decide +kernel)) (by decide +kernel)), (gIn (List.mem_of_getElem? (i := 82) (by decide +kernel)) (by decide +kernel)), (gIn (List.mem_of_getElem? (i := 528) (by decide +kernel)) (by decide +kernel)), rfl, ⟨by decide +kernel, by decide +kernel, by decide +kernel⟩⟩
set_option maxRecDepth 100000 in
theorem kX4_130 : gLkV RX4 130 7 M_X4_weightInBag 2 := ⟨TX4, 11, rfl, (gIn (List.mem_of_getElem? (i := 529) (by decide +kernel)) (by decide +kernel)), (gIn (List.mem_of_getElem? (i := 530) (by decide +kernel)) (by decide +kernel)), (gIn (List.mem_of_getElem? (i := 531) (by decide +kernel)) (by decide +kernel)), (gIn (List.mem_of_getElem? (i := 82) (by decide +kernel)) (by decide +kernel)), (gIn (List.mem_of_getElem? (i := 532) (by decide +kernel)) (by decide +kernel)), rfl, ⟨by decide +kernel, by decide +kernel, by decide +kernel⟩⟩
set_option maxRecDepth 100000 in
theorem fX4_134 : gFld RX4 134 6 2 (.int) true := ⟨_, "MailOffice$Letter", TX3, 7, tyX3, rfl, by decide, inGX3, (gIn (List.mem_of_getElem? (i := 384) (by decide +kernel)) (by decide +kernel)), Or.inl rfl, tyX3_ok, nmX3, rfl, rfl⟩
set_option maxRecDepth 100000 in
theorem fX4_137 : gFld RX4 137 6 3 (.boolean) true := ⟨_, "MailOffice$Letter", TX3, 7, tyX3, rfl, by decide, inGX3, (gIn (List.mem_of_getElem? (i := 387) (by decide +kernel)) (by decide +kernel)), Or.inl rfl, tyX3_ok, nmX3, rfl, rfl⟩
set_option maxRecDepth 100000 in
theorem kX4_141 : gLkV RX4 141 7 M_X4_moveClock 0 := ⟨TX4, 11, rfl, (gIn (List.mem_of_getElem? (i := 956) (by decide +kernel)) (by decide +kernel)), (gIn (List.mem_of_getElem? (i := 958) (by decide +kernel)) (by decide +kernel)), (gIn (List.mem_of_getElem? (i := 18) (by decide +kernel)) (by decide +kernel)), (gIn (List.mem_of_getElem? (i := 82) (by decide +kernel)) (by decide +kernel)), (gIn (List.mem_of_getElem? (i := 959) (by decide +kernel)) (by decide +kernel)), rfl, ⟨by decide +kernel, by decide +kernel, by decide +kernel⟩⟩
set_option maxRecDepth 100000 in
theorem kX4_144 : gLkV RX4 144 7 M_X4_sendLetters 1 := ⟨TX4, 11, rfl, (gIn (List.mem_of_getElem? (i := 960) (by decide +kernel)) (by decide +kernel)), (gIn (List.mem_of_getElem? (i := 962) (by decide +kernel)) (by decide +kernel)), (gIn (List.mem_of_getElem? (i := 19) (by decide +kernel)) (by decide +kernel)), (gIn (List.mem_of_getElem? (i := 82) (by decide +kernel)) (by decide +kernel)), (gIn (List.mem_of_getElem? (i := 963) (by decide +kernel)) (by decide +kernel)), rfl, ⟨by decide +kernel, by decide +kernel, by decide +kernel⟩⟩
set_option maxRecDepth 100000 in
theorem kX4_148 : gLkV RX4 148 7 M_X4_wouldComeBack 1 := ⟨TX4, 11, rfl, (gIn (List.mem_of_getElem? (i := 731) (by decide +kernel)) (by decide +kernel)), (gIn (List.mem_of_getElem? (i := 732) (by decide +kernel)) (by decide +kernel)), (gIn (List.mem_of_getElem? (i := 733) (by decide +kernel)) (by decide +kernel)), (gIn (List.mem_of_getElem? (i := 82) (by decide +kernel)) (by decide +kernel)), (gIn (List.mem_of_getElem? (i := 734) (by decide +kernel)) (by decide +kernel)), rfl, ⟨by decide +kernel, by decide +kernel, by decide +kernel⟩⟩
set_option maxRecDepth 100000 in
theorem kX4_152 : gLkV RX4 152 4 M_Jx4a65c_remove_915e3 1 := ⟨TJx4a65c, 3, rfl, (gIn (List.mem_of_getElem? (i := 964) (by decide +kernel)) (by decide +kernel)), (gIn (List.mem_of_getElem? (i := 673) (by decide +kernel)) (by decide +kernel)), (gIn (List.mem_of_getElem? (i := 674) (by decide +kernel)) (by decide +kernel)), (gIn (List.mem_of_getElem? (i := 85) (by decide +kernel)) (by decide +kernel)), (gIn (List.mem_of_getElem? (i := 675) (by decide +kernel)) (by decide +kernel)), rfl, ⟨by decide +kernel, by decide +kernel, by decide +kernel⟩⟩
set_option maxRecDepth 100000 in
theorem kX4_155 : gLkV RX4 155 6 M_X3_comeBack 0 := ⟨TX3, 7, rfl, (gIn (List.mem_of_getElem? (i := 965) (by decide +kernel)) (by decide +kernel)), (gIn (List.mem_of_getElem? (i := 966) (by decide +kernel)) (by decide +kernel)), (gIn (List.mem_of_getElem? (i := 967) (by decide +kernel)) (by decide +kernel)), (gIn (List.mem_of_getElem? (i := 96) (by decide +kernel)) (by decide +kernel)), (gIn (List.mem_of_getElem? (i := 968) (by decide +kernel)) (by decide +kernel)), rfl, ⟨by decide +kernel, by decide +kernel, by decide +kernel⟩⟩
set_option maxRecDepth 100000 in
theorem fX4_158 : gFld RX4 158 6 4 (.int) false := ⟨_, "MailOffice$Letter", TX3, 7, tyX3, rfl, by decide, inGX3, (gIn (List.mem_of_getElem? (i := 390) (by decide +kernel)) (by decide +kernel)), Or.inl rfl, tyX3_ok, nmX3, rfl, rfl⟩
set_option maxRecDepth 100000 in
theorem fX4_161 : gFld RX4 161 6 1 (.int) true := ⟨_, "MailOffice$Letter", TX3, 7, tyX3, rfl, by decide, inGX3, (gIn (List.mem_of_getElem? (i := 381) (by decide +kernel)) (by decide +kernel)), Or.inl rfl, tyX3_ok, nmX3, rfl, rfl⟩
set_option maxRecDepth 100000 in
theorem kX4_164 : gLkV RX4 164 11 M_X8_longestMatch 2 := ⟨TX8, 2, rfl, (gIn (List.mem_of_getElem? (i := 510) (by decide +kernel)) (by decide +kernel)), (gIn (List.mem_of_getElem? (i := 511) (by decide +kernel)) (by decide +kernel)), (gIn (List.mem_of_getElem? (i := 512) (by decide +kernel)) (by decide +kernel)), (gIn (List.mem_of_getElem? (i := 86) (by decide +kernel)) (by decide +kernel)), (gIn (List.mem_of_getElem? (i := 513) (by decide +kernel)) (by decide +kernel)), rfl, ⟨by decide +kernel, by decide +kernel, by decide +kernel⟩⟩
set_option maxRecDepth 100000 in
theorem fX4_168 : gFld RX4 168 9 2 (.int) true := ⟨_, "MailOffice$Prefix", TX6, 5, tyX6, rfl, by decide, inGX6, (gIn (List.mem_of_getElem? (i := 185) (by decide +kernel)) (by decide +kernel)), Or.inl rfl, tyX6_ok, nmX6, rfl, rfl⟩
set_option maxRecDepth 100000 in
theorem kX4_171 : gLkV RX4 171 7 M_X4_addTrayLetters 2 := ⟨TX4, 11, rfl, (gIn (List.mem_of_getElem? (i := 494) (by decide +kernel)) (by decide +kernel)), (gIn (List.mem_of_getElem? (i := 496) (by decide +kernel)) (by decide +kernel)), (gIn (List.mem_of_getElem? (i := 3) (by decide +kernel)) (by decide +kernel)), (gIn (List.mem_of_getElem? (i := 82) (by decide +kernel)) (by decide +kernel)), (gIn (List.mem_of_getElem? (i := 497) (by decide +kernel)) (by decide +kernel)), rfl, ⟨by decide +kernel, by decide +kernel, by decide +kernel⟩⟩
set_option maxRecDepth 100000 in
theorem kX4_175 : gLkV RX4 175 6 M_X3_isIn 2 := ⟨TX3, 7, rfl, (gIn (List.mem_of_getElem? (i := 533) (by decide +kernel)) (by decide +kernel)), (gIn (List.mem_of_getElem? (i := 534) (by decide +kernel)) (by decide +kernel)), (gIn (List.mem_of_getElem? (i := 535) (by decide +kernel)) (by decide +kernel)), (gIn (List.mem_of_getElem? (i := 96) (by decide +kernel)) (by decide +kernel)), (gIn (List.mem_of_getElem? (i := 536) (by decide +kernel)) (by decide +kernel)), rfl, ⟨by decide +kernel, by decide +kernel, by decide +kernel⟩⟩
set_option maxRecDepth 100000 in
theorem kX4_179 : gLkV RX4 179 7 M_X4_countBags 1 := ⟨TX4, 11, rfl, (gIn (List.mem_of_getElem? (i := 794) (by decide +kernel)) (by decide +kernel)), (gIn (List.mem_of_getElem? (i := 795) (by decide +kernel)) (by decide +kernel)), (gIn (List.mem_of_getElem? (i := 796) (by decide +kernel)) (by decide +kernel)), (gIn (List.mem_of_getElem? (i := 82) (by decide +kernel)) (by decide +kernel)), (gIn (List.mem_of_getElem? (i := 797) (by decide +kernel)) (by decide +kernel)), rfl, ⟨by decide +kernel, by decide +kernel, by decide +kernel⟩⟩
set_option maxRecDepth 100000 in
theorem kX4_183 : gLkV RX4 183 7 M_X4_ranksBefore 2 := ⟨TX4, 11, rfl, (gIn (List.mem_of_getElem? (i := 1247) (by decide +kernel)) (by decide +kernel)), (gIn (List.mem_of_getElem? (i := 1249) (by decide +kernel)) (by decide +kernel)), (gIn (List.mem_of_getElem? (i := 24) (by decide +kernel)) (by decide +kernel)), (gIn (List.mem_of_getElem? (i := 82) (by decide +kernel)) (by decide +kernel)), (gIn (List.mem_of_getElem? (i := 1250) (by decide +kernel)) (by decide +kernel)), rfl, ⟨by decide +kernel, by decide +kernel, by decide +kernel⟩⟩
set_option maxRecDepth 100000 in
theorem kX4_186 : gLkV RX4 186 7 M_X4_weightByLetters 1 := ⟨TX4, 11, rfl, (gIn (List.mem_of_getElem? (i := 786) (by decide +kernel)) (by decide +kernel)), (gIn (List.mem_of_getElem? (i := 787) (by decide +kernel)) (by decide +kernel)), (gIn (List.mem_of_getElem? (i := 788) (by decide +kernel)) (by decide +kernel)), (gIn (List.mem_of_getElem? (i := 82) (by decide +kernel)) (by decide +kernel)), (gIn (List.mem_of_getElem? (i := 789) (by decide +kernel)) (by decide +kernel)), rfl, ⟨by decide +kernel, by decide +kernel, by decide +kernel⟩⟩
set_option maxRecDepth 100000 in
theorem kX4_189 : gLkV RX4 189 10 M_X7_routeOfCode 1 := ⟨TX7, 3, rfl, (gIn (List.mem_of_getElem? (i := 778) (by decide +kernel)) (by decide +kernel)), (gIn (List.mem_of_getElem? (i := 779) (by decide +kernel)) (by decide +kernel)), (gIn (List.mem_of_getElem? (i := 780) (by decide +kernel)) (by decide +kernel)), (gIn (List.mem_of_getElem? (i := 88) (by decide +kernel)) (by decide +kernel)), (gIn (List.mem_of_getElem? (i := 781) (by decide +kernel)) (by decide +kernel)), rfl, ⟨by decide +kernel, by decide +kernel, by decide +kernel⟩⟩
set_option maxRecDepth 100000 in
theorem kX4_194 : gLkV RX4 194 7 M_X4_weightByBags 1 := ⟨TX4, 11, rfl, (gIn (List.mem_of_getElem? (i := 790) (by decide +kernel)) (by decide +kernel)), (gIn (List.mem_of_getElem? (i := 791) (by decide +kernel)) (by decide +kernel)), (gIn (List.mem_of_getElem? (i := 792) (by decide +kernel)) (by decide +kernel)), (gIn (List.mem_of_getElem? (i := 82) (by decide +kernel)) (by decide +kernel)), (gIn (List.mem_of_getElem? (i := 793) (by decide +kernel)) (by decide +kernel)), rfl, ⟨by decide +kernel, by decide +kernel, by decide +kernel⟩⟩
set_option maxRecDepth 100000 in
theorem kX4_197 : gLkV RX4 197 7 M_X4_hasTooHeavyBag 1 := ⟨TX4, 11, rfl, (gIn (List.mem_of_getElem? (i := 798) (by decide +kernel)) (by decide +kernel)), (gIn (List.mem_of_getElem? (i := 800) (by decide +kernel)) (by decide +kernel)), (gIn (List.mem_of_getElem? (i := 17) (by decide +kernel)) (by decide +kernel)), (gIn (List.mem_of_getElem? (i := 82) (by decide +kernel)) (by decide +kernel)), (gIn (List.mem_of_getElem? (i := 801) (by decide +kernel)) (by decide +kernel)), rfl, ⟨by decide +kernel, by decide +kernel, by decide +kernel⟩⟩
set_option maxRecDepth 100000 in
theorem fX5_9 : gFld RX5 9 8 2 (.int) false := ⟨_, "MailOffice$Parser", TX5, 4, tyX5, rfl, by decide, inGX5, (gIn (List.mem_of_getElem? (i := 1611) (by decide +kernel)) (by decide +kernel)), Or.inl rfl, tyX5_ok, nmX5, rfl, rfl⟩
set_option maxRecDepth 100000 in
theorem kX5_17 : gLkI RX5 17 M_Jx4a65c_init_da8c8 0 := ⟨(gIn (List.mem_of_getElem? (i := 1608) (by decide +kernel)) (by decide +kernel)), rfl, rfl, (gIn (List.mem_of_getElem? (i := 136) (by decide +kernel)) (by decide +kernel)), (gIn (List.mem_of_getElem? (i := 85) (by decide +kernel)) (by decide +kernel)), (gIn (List.mem_of_getElem? (i := 137) (by decide +kernel)) (by decide +kernel)), rfl, ⟨by decide +kernel, by decide +kernel, by decide +kernel⟩⟩
set_option maxRecDepth 100000 in
theorem fX5_18 : gFld RX5 18 8 3 (.object "java/util/ArrayList") true := ⟨_, "MailOffice$Parser", TX5, 4, tyX5, rfl, by decide, inGX5, (gIn (List.mem_of_getElem? (i := 1613) (by decide +kernel)) (by decide +kernel)), Or.inl rfl, tyX5_ok, nmX5, rfl, rfl⟩
set_option maxRecDepth 100000 in
theorem fX5_22 : gFld RX5 22 8 0 (.array .char) true := ⟨_, "MailOffice$Parser", TX5, 4, tyX5, rfl, by decide, inGX5, (gIn (List.mem_of_getElem? (i := 1609) (by decide +kernel)) (by decide +kernel)), Or.inl rfl, tyX5_ok, nmX5, rfl, rfl⟩
set_option maxRecDepth 100000 in
theorem fX5_26 : gFld RX5 26 8 1 (.int) true := ⟨_, "MailOffice$Parser", TX5, 4, tyX5, rfl, by decide, inGX5, (gIn (List.mem_of_getElem? (i := 1610) (by decide +kernel)) (by decide +kernel)), Or.inl rfl, tyX5_ok, nmX5, rfl, rfl⟩
set_option maxRecDepth 100000 in
theorem kX5_29 : gLkV RX5 29 8 M_X5_readCommand 0 := ⟨TX5, 4, rfl, (gIn (List.mem_of_getElem? (i := 1628) (by decide +kernel)) (by decide +kernel)), (gIn (List.mem_of_getElem? (i := 1630) (by decide +kernel)) (by decide +kernel)), (gIn (List.mem_of_getElem? (i := 25) (by decide +kernel)) (by decide +kernel)), (gIn (List.mem_of_getElem? (i := 114) (by decide +kernel)) (by decide +kernel)), (gIn (List.mem_of_getElem? (i := 1631) (by decide +kernel)) (by decide +kernel)), rfl, ⟨by decide +kernel, by decide +kernel, by decide +kernel⟩⟩
set_option maxRecDepth 100000 in
theorem kX5_33 : gLkV RX5 33 8 M_X5_skip 1 := ⟨TX5, 4, rfl, (gIn (List.mem_of_getElem? (i := 1669) (by decide +kernel)) (by decide +kernel)), (gIn (List.mem_of_getElem? (i := 1671) (by decide +kernel)) (by decide +kernel)), (gIn (List.mem_of_getElem? (i := 30) (by decide +kernel)) (by decide +kernel)), (gIn (List.mem_of_getElem? (i := 114) (by decide +kernel)) (by decide +kernel)), (gIn (List.mem_of_getElem? (i := 1672) (by decide +kernel)) (by decide +kernel)), rfl, ⟨by decide +kernel, by decide +kernel, by decide +kernel⟩⟩
set_option maxRecDepth 100000 in
theorem kX5_37 : gLkV RX5 37 8 M_X5_readKeyword 0 := ⟨TX5, 4, rfl, (gIn (List.mem_of_getElem? (i := 1632) (by decide +kernel)) (by decide +kernel)), (gIn (List.mem_of_getElem? (i := 1634) (by decide +kernel)) (by decide +kernel)), (gIn (List.mem_of_getElem? (i := 26) (by decide +kernel)) (by decide +kernel)), (gIn (List.mem_of_getElem? (i := 114) (by decide +kernel)) (by decide +kernel)), (gIn (List.mem_of_getElem? (i := 1635) (by decide +kernel)) (by decide +kernel)), rfl, ⟨by decide +kernel, by decide +kernel, by decide +kernel⟩⟩
set_option maxRecDepth 100000 in
theorem kX5_50 : gLkV RX5 50 8 M_X5_readNumber 1 := ⟨TX5, 4, rfl, (gIn (List.mem_of_getElem? (i := 1673) (by decide +kernel)) (by decide +kernel)), (gIn (List.mem_of_getElem? (i := 1675) (by decide +kernel)) (by decide +kernel)), (gIn (List.mem_of_getElem? (i := 31) (by decide +kernel)) (by decide +kernel)), (gIn (List.mem_of_getElem? (i := 114) (by decide +kernel)) (by decide +kernel)), (gIn (List.mem_of_getElem? (i := 1676) (by decide +kernel)) (by decide +kernel)), rfl, ⟨by decide +kernel, by decide +kernel, by decide +kernel⟩⟩
set_option maxRecDepth 100000 in
theorem kX5_59 : gLkI RX5 59 M_X1_init 4 := ⟨(gIn (List.mem_of_getElem? (i := 1683) (by decide +kernel)) (by decide +kernel)), rfl, rfl, (gIn (List.mem_of_getElem? (i := 1684) (by decide +kernel)) (by decide +kernel)), (gIn (List.mem_of_getElem? (i := 117) (by decide +kernel)) (by decide +kernel)), (gIn (List.mem_of_getElem? (i := 1685) (by decide +kernel)) (by decide +kernel)), rfl, ⟨by decide +kernel, by decide +kernel, by decide +kernel⟩⟩
set_option maxRecDepth 100000 in
theorem kX5_62 : gLkV RX5 62 4 M_Jx4a65c_add_9ea2d 1 := ⟨TJx4a65c, 3, rfl, (gIn (List.mem_of_getElem? (i := 1700) (by decide +kernel)) (by decide +kernel)), (gIn (List.mem_of_getElem? (i := 413) (by decide +kernel)) (by decide +kernel)), (gIn (List.mem_of_getElem? (i := 414) (by decide +kernel)) (by decide +kernel)), (gIn (List.mem_of_getElem? (i := 85) (by decide +kernel)) (by decide +kernel)), (gIn (List.mem_of_getElem? (i := 415) (by decide +kernel)) (by decide +kernel)), rfl, ⟨by decide +kernel, by decide +kernel, by decide +kernel⟩⟩
set_option maxRecDepth 100000 in
theorem kX5_73 : gLkV RX5 73 8 M_X5_commonLength 1 := ⟨TX5, 4, rfl, (gIn (List.mem_of_getElem? (i := 1638) (by decide +kernel)) (by decide +kernel)), (gIn (List.mem_of_getElem? (i := 1640) (by decide +kernel)) (by decide +kernel)), (gIn (List.mem_of_getElem? (i := 27) (by decide +kernel)) (by decide +kernel)), (gIn (List.mem_of_getElem? (i := 114) (by decide +kernel)) (by decide +kernel)), (gIn (List.mem_of_getElem? (i := 1641) (by decide +kernel)) (by decide +kernel)), rfl, ⟨by decide +kernel, by decide +kernel, by decide +kernel⟩⟩
set_option maxRecDepth 100000 in
theorem kX5_77 : gLkV RX5 77 0 M_J0_length_8abf5 0 := ⟨TJ0, 4, rfl, (gIn (List.mem_of_getElem? (i := 1642) (by decide +kernel)) (by decide +kernel)), (gIn (List.mem_of_getElem? (i := 1373) (by decide +kernel)) (by decide +kernel)), (gIn (List.mem_of_getElem? (i := 1374) (by decide +kernel)) (by decide +kernel)), (gIn (List.mem_of_getElem? (i := 91) (by decide +kernel)) (by decide +kernel)), (gIn (List.mem_of_getElem? (i := 1375) (by decide +kernel)) (by decide +kernel)), rfl, ⟨by decide +kernel, by decide +kernel, by decide +kernel⟩⟩
set_option maxRecDepth 100000 in
theorem kX5_82 : gLkS RX5 82 M_J9_max_7cf53 2 := ⟨(gIn (List.mem_of_getElem? (i := 1666) (by decide +kernel)) (by decide +kernel)), (gIn (List.mem_of_getElem? (i := 432) (by decide +kernel)) (by decide +kernel)), (gIn (List.mem_of_getElem? (i := 98) (by decide +kernel)) (by decide +kernel)), (gIn (List.mem_of_getElem? (i := 433) (by decide +kernel)) (by decide +kernel)), rfl, ⟨by decide +kernel, by decide +kernel, by decide +kernel⟩⟩
set_option maxRecDepth 100000 in
theorem kX5_88 : gLkV RX5 88 0 M_J0_charAt_5068e 1 := ⟨TJ0, 4, rfl, (gIn (List.mem_of_getElem? (i := 1643) (by decide +kernel)) (by decide +kernel)), (gIn (List.mem_of_getElem? (i := 1644) (by decide +kernel)) (by decide +kernel)), (gIn (List.mem_of_getElem? (i := 1645) (by decide +kernel)) (by decide +kernel)), (gIn (List.mem_of_getElem? (i := 91) (by decide +kernel)) (by decide +kernel)), (gIn (List.mem_of_getElem? (i := 1646) (by decide +kernel)) (by decide +kernel)), rfl, ⟨by decide +kernel, by decide +kernel, by decide +kernel⟩⟩
set_option maxRecDepth 100000 in
theorem kX5_92 : gLkV RX5 92 8 M_X5_hasAt 2 := ⟨TX5, 4, rfl, (gIn (List.mem_of_getElem? (i := 1658) (by decide +kernel)) (by decide +kernel)), (gIn (List.mem_of_getElem? (i := 1660) (by decide +kernel)) (by decide +kernel)), (gIn (List.mem_of_getElem? (i := 28) (by decide +kernel)) (by decide +kernel)), (gIn (List.mem_of_getElem? (i := 114) (by decide +kernel)) (by decide +kernel)), (gIn (List.mem_of_getElem? (i := 1661) (by decide +kernel)) (by decide +kernel)), rfl, ⟨by decide +kernel, by decide +kernel, by decide +kernel⟩⟩
set_option maxRecDepth 100000 in
theorem kX5_96 : gLkV RX5 96 8 M_X5_hasDigitAt 1 := ⟨TX5, 4, rfl, (gIn (List.mem_of_getElem? (i := 1677) (by decide +kernel)) (by decide +kernel)), (gIn (List.mem_of_getElem? (i := 1679) (by decide +kernel)) (by decide +kernel)), (gIn (List.mem_of_getElem? (i := 32) (by decide +kernel)) (by decide +kernel)), (gIn (List.mem_of_getElem? (i := 114) (by decide +kernel)) (by decide +kernel)), (gIn (List.mem_of_getElem? (i := 1680) (by decide +kernel)) (by decide +kernel)), rfl, ⟨by decide +kernel, by decide +kernel, by decide +kernel⟩⟩
set_option maxRecDepth 100000 in
theorem kX5_100 : gLkV RX5 100 8 M_X5_isInside 1 := ⟨TX5, 4, rfl, (gIn (List.mem_of_getElem? (i := 1662) (by decide +kernel)) (by decide +kernel)), (gIn (List.mem_of_getElem? (i := 1664) (by decide +kernel)) (by decide +kernel)), (gIn (List.mem_of_getElem? (i := 29) (by decide +kernel)) (by decide +kernel)), (gIn (List.mem_of_getElem? (i := 114) (by decide +kernel)) (by decide +kernel)), (gIn (List.mem_of_getElem? (i := 1665) (by decide +kernel)) (by decide +kernel)), rfl, ⟨by decide +kernel, by decide +kernel, by decide +kernel⟩⟩
set_option maxRecDepth 100000 in
theorem fX6_9 : gFld RX6 9 9 0 (.int) true := ⟨_, "MailOffice$Prefix", TX6, 5, tyX6, rfl, by decide, inGX6, (gIn (List.mem_of_getElem? (i := 176) (by decide +kernel)) (by decide +kernel)), Or.inl rfl, tyX6_ok, nmX6, rfl, rfl⟩
set_option maxRecDepth 100000 in
theorem fX6_15 : gFld RX6 15 9 1 (.int) true := ⟨_, "MailOffice$Prefix", TX6, 5, tyX6, rfl, by decide, inGX6, (gIn (List.mem_of_getElem? (i := 178) (by decide +kernel)) (by decide +kernel)), Or.inl rfl, tyX6_ok, nmX6, rfl, rfl⟩
set_option maxRecDepth 100000 in
theorem fX6_18 : gFld RX6 18 9 2 (.int) true := ⟨_, "MailOffice$Prefix", TX6, 5, tyX6, rfl, by decide, inGX6, (gIn (List.mem_of_getElem? (i := 182) (by decide +kernel)) (by decide +kernel)), Or.inl rfl, tyX6_ok, nmX6, rfl, rfl⟩
set_option maxRecDepth 100000 in
theorem kX6_21 : gLkSN RX6 "MailOffice" 21 M_X9_powerOfTen 1 := ⟨(gInF (List.mem_of_getElem? (i := 173) (by decide +kernel)) (by decide +kernel)), (gIn (List.mem_of_getElem? (i := 174) (by decide +kernel)) (by decide +kernel)), (gIn (List.mem_of_getElem? (i := 81) (by decide +kernel)) (by decide +kernel)), (gIn (List.mem_of_getElem? (i := 175) (by decide +kernel)) (by decide +kernel)), rfl, ⟨by decide +kernel, by decide +kernel, by decide +kernel⟩⟩
set_option maxRecDepth 100000 in
theorem fX6_25 : gFld RX6 25 9 3 (.int) true := ⟨_, "MailOffice$Prefix", TX6, 5, tyX6, rfl, by decide, inGX6, (gIn (List.mem_of_getElem? (i := 187) (by decide +kernel)) (by decide +kernel)), Or.inl rfl, tyX6_ok, nmX6, rfl, rfl⟩
set_option maxRecDepth 100000 in
theorem fX6_28 : gFld RX6 28 9 4 (.int) true := ⟨_, "MailOffice$Prefix", TX6, 5, tyX6, rfl, by decide, inGX6, (gIn (List.mem_of_getElem? (i := 189) (by decide +kernel)) (by decide +kernel)), Or.inl rfl, tyX6_ok, nmX6, rfl, rfl⟩
set_option maxRecDepth 100000 in
theorem fX7_11 : gFld RX7 11 10 0 (.array .int) true := ⟨_, "MailOffice$PrefixTree", TX7, 3, tyX7, rfl, by decide, inGX7, (gIn (List.mem_of_getElem? (i := 266) (by decide +kernel)) (by decide +kernel)), Or.inl rfl, tyX7_ok, nmX7, rfl, rfl⟩
set_option maxRecDepth 100000 in
theorem fX7_15 : gFld RX7 15 10 1 (.array .int) true := ⟨_, "MailOffice$PrefixTree", TX7, 3, tyX7, rfl, by decide, inGX7, (gIn (List.mem_of_getElem? (i := 267) (by decide +kernel)) (by decide +kernel)), Or.inl rfl, tyX7_ok, nmX7, rfl, rfl⟩
set_option maxRecDepth 100000 in
theorem fX7_18 : gFld RX7 18 10 2 (.int) false := ⟨_, "MailOffice$PrefixTree", TX7, 3, tyX7, rfl, by decide, inGX7, (gIn (List.mem_of_getElem? (i := 268) (by decide +kernel)) (by decide +kernel)), Or.inl rfl, tyX7_ok, nmX7, rfl, rfl⟩
set_option maxRecDepth 100000 in
theorem kX7_22 : gLkV RX7 22 10 M_X7_addNode 0 := ⟨TX7, 3, rfl, (gIn (List.mem_of_getElem? (i := 755) (by decide +kernel)) (by decide +kernel)), (gIn (List.mem_of_getElem? (i := 757) (by decide +kernel)) (by decide +kernel)), (gIn (List.mem_of_getElem? (i := 13) (by decide +kernel)) (by decide +kernel)), (gIn (List.mem_of_getElem? (i := 88) (by decide +kernel)) (by decide +kernel)), (gIn (List.mem_of_getElem? (i := 758) (by decide +kernel)) (by decide +kernel)), rfl, ⟨by decide +kernel, by decide +kernel, by decide +kernel⟩⟩
set_option maxRecDepth 100000 in
theorem fX7_26 : gFld RX7 26 11 0 (.object "java/util/ArrayList") true := ⟨_, "MailOffice$RoutingTable", TX8, 2, tyX8, rfl, by decide, inGX8, (gIn (List.mem_of_getElem? (i := 204) (by decide +kernel)) (by decide +kernel)), Or.inl rfl, tyX8_ok, nmX8, rfl, rfl⟩
set_option maxRecDepth 100000 in
theorem kX7_32 : gLkV RX7 32 4 M_Jx4a65c_size_8abf5 0 := ⟨TJx4a65c, 3, rfl, (gIn (List.mem_of_getElem? (i := 763) (by decide +kernel)) (by decide +kernel)), (gIn (List.mem_of_getElem? (i := 349) (by decide +kernel)) (by decide +kernel)), (gIn (List.mem_of_getElem? (i := 350) (by decide +kernel)) (by decide +kernel)), (gIn (List.mem_of_getElem? (i := 85) (by decide +kernel)) (by decide +kernel)), (gIn (List.mem_of_getElem? (i := 351) (by decide +kernel)) (by decide +kernel)), rfl, ⟨by decide +kernel, by decide +kernel, by decide +kernel⟩⟩
set_option maxRecDepth 100000 in
theorem kX7_37 : gLkV RX7 37 4 M_Jx4a65c_get_915e3 1 := ⟨TJx4a65c, 3, rfl, (gIn (List.mem_of_getElem? (i := 764) (by decide +kernel)) (by decide +kernel)), (gIn (List.mem_of_getElem? (i := 353) (by decide +kernel)) (by decide +kernel)), (gIn (List.mem_of_getElem? (i := 354) (by decide +kernel)) (by decide +kernel)), (gIn (List.mem_of_getElem? (i := 85) (by decide +kernel)) (by decide +kernel)), (gIn (List.mem_of_getElem? (i := 355) (by decide +kernel)) (by decide +kernel)), rfl, ⟨by decide +kernel, by decide +kernel, by decide +kernel⟩⟩
set_option maxRecDepth 100000 in
theorem kX7_43 : gLkV RX7 43 10 M_X7_grow 1 := ⟨TX7, 3, rfl, (gIn (List.mem_of_getElem? (i := 766) (by decide +kernel)) (by decide +kernel)), (gIn (List.mem_of_getElem? (i := 768) (by decide +kernel)) (by decide +kernel)), (gIn (List.mem_of_getElem? (i := 15) (by decide +kernel)) (by decide +kernel)), (gIn (List.mem_of_getElem? (i := 88) (by decide +kernel)) (by decide +kernel)), (gIn (List.mem_of_getElem? (i := 769) (by decide +kernel)) (by decide +kernel)), rfl, ⟨by decide +kernel, by decide +kernel, by decide +kernel⟩⟩
set_option maxRecDepth 100000 in
theorem kX7_47 : gLkV RX7 47 10 M_X7_child 2 := ⟨TX7, 3, rfl, (gIn (List.mem_of_getElem? (i := 770) (by decide +kernel)) (by decide +kernel)), (gIn (List.mem_of_getElem? (i := 772) (by decide +kernel)) (by decide +kernel)), (gIn (List.mem_of_getElem? (i := 16) (by decide +kernel)) (by decide +kernel)), (gIn (List.mem_of_getElem? (i := 88) (by decide +kernel)) (by decide +kernel)), (gIn (List.mem_of_getElem? (i := 773) (by decide +kernel)) (by decide +kernel)), rfl, ⟨by decide +kernel, by decide +kernel, by decide +kernel⟩⟩
set_option maxRecDepth 100000 in
theorem fX7_51 : gFld RX7 51 9 1 (.int) true := ⟨_, "MailOffice$Prefix", TX6, 5, tyX6, rfl, by decide, inGX6, (gIn (List.mem_of_getElem? (i := 179) (by decide +kernel)) (by decide +kernel)), Or.inl rfl, tyX6_ok, nmX6, rfl, rfl⟩
set_option maxRecDepth 100000 in
theorem fX7_54 : gFld RX7 54 9 4 (.int) true := ⟨_, "MailOffice$Prefix", TX6, 5, tyX6, rfl, by decide, inGX6, (gIn (List.mem_of_getElem? (i := 190) (by decide +kernel)) (by decide +kernel)), Or.inl rfl, tyX6_ok, nmX6, rfl, rfl⟩
set_option maxRecDepth 100000 in
theorem kX7_57 : gLkV RX7 57 10 M_X7_linkChild 3 := ⟨TX7, 3, rfl, (gIn (List.mem_of_getElem? (i := 759) (by decide +kernel)) (by decide +kernel)), (gIn (List.mem_of_getElem? (i := 761) (by decide +kernel)) (by decide +kernel)), (gIn (List.mem_of_getElem? (i := 14) (by decide +kernel)) (by decide +kernel)), (gIn (List.mem_of_getElem? (i := 88) (by decide +kernel)) (by decide +kernel)), (gIn (List.mem_of_getElem? (i := 762) (by decide +kernel)) (by decide +kernel)), rfl, ⟨by decide +kernel, by decide +kernel, by decide +kernel⟩⟩
set_option maxRecDepth 100000 in
theorem fX7_61 : gFld RX7 61 9 2 (.int) true := ⟨_, "MailOffice$Prefix", TX6, 5, tyX6, rfl, by decide, inGX6, (gIn (List.mem_of_getElem? (i := 184) (by decide +kernel)) (by decide +kernel)), Or.inl rfl, tyX6_ok, nmX6, rfl, rfl⟩
set_option maxRecDepth 100000 in
theorem kX8_11 : gLkI RX8 11 M_Jx4a65c_init_da8c8 0 := ⟨(gIn (List.mem_of_getElem? (i := 166) (by decide +kernel)) (by decide +kernel)), rfl, rfl, (gIn (List.mem_of_getElem? (i := 136) (by decide +kernel)) (by decide +kernel)), (gIn (List.mem_of_getElem? (i := 85) (by decide +kernel)) (by decide +kernel)), (gIn (List.mem_of_getElem? (i := 137) (by decide +kernel)) (by decide +kernel)), rfl, ⟨by decide +kernel, by decide +kernel, by decide +kernel⟩⟩
set_option maxRecDepth 100000 in
theorem fX8_12 : gFld RX8 12 11 0 (.object "java/util/ArrayList") true := ⟨_, "MailOffice$RoutingTable", TX8, 2, tyX8, rfl, by decide, inGX8, (gIn (List.mem_of_getElem? (i := 203) (by decide +kernel)) (by decide +kernel)), Or.inl rfl, tyX8_ok, nmX8, rfl, rfl⟩
set_option maxRecDepth 100000 in
theorem kX8_20 : gLkI RX8 20 M_X6_init 3 := ⟨(gIn (List.mem_of_getElem? (i := 169) (by decide +kernel)) (by decide +kernel)), rfl, rfl, (gIn (List.mem_of_getElem? (i := 170) (by decide +kernel)) (by decide +kernel)), (gIn (List.mem_of_getElem? (i := 87) (by decide +kernel)) (by decide +kernel)), (gIn (List.mem_of_getElem? (i := 171) (by decide +kernel)) (by decide +kernel)), rfl, ⟨by decide +kernel, by decide +kernel, by decide +kernel⟩⟩
set_option maxRecDepth 100000 in
theorem fX8_23 : gFld RX8 23 11 1 (.object "MailOffice$Prefix") true := ⟨_, "MailOffice$RoutingTable", TX8, 2, tyX8, rfl, by decide, inGX8, (gIn (List.mem_of_getElem? (i := 206) (by decide +kernel)) (by decide +kernel)), Or.inl rfl, tyX8_ok, nmX8, rfl, rfl⟩
set_option maxRecDepth 100000 in
theorem kX8_27 : gLkV RX8 27 4 M_Jx4a65c_size_8abf5 0 := ⟨TJx4a65c, 3, rfl, (gIn (List.mem_of_getElem? (i := 483) (by decide +kernel)) (by decide +kernel)), (gIn (List.mem_of_getElem? (i := 349) (by decide +kernel)) (by decide +kernel)), (gIn (List.mem_of_getElem? (i := 350) (by decide +kernel)) (by decide +kernel)), (gIn (List.mem_of_getElem? (i := 85) (by decide +kernel)) (by decide +kernel)), (gIn (List.mem_of_getElem? (i := 351) (by decide +kernel)) (by decide +kernel)), rfl, ⟨by decide +kernel, by decide +kernel, by decide +kernel⟩⟩
set_option maxRecDepth 100000 in
theorem kX8_31 : gLkV RX8 31 4 M_Jx4a65c_get_915e3 1 := ⟨TJx4a65c, 3, rfl, (gIn (List.mem_of_getElem? (i := 484) (by decide +kernel)) (by decide +kernel)), (gIn (List.mem_of_getElem? (i := 353) (by decide +kernel)) (by decide +kernel)), (gIn (List.mem_of_getElem? (i := 354) (by decide +kernel)) (by decide +kernel)), (gIn (List.mem_of_getElem? (i := 85) (by decide +kernel)) (by decide +kernel)), (gIn (List.mem_of_getElem? (i := 355) (by decide +kernel)) (by decide +kernel)), rfl, ⟨by decide +kernel, by decide +kernel, by decide +kernel⟩⟩
set_option maxRecDepth 100000 in
theorem kX8_35 : gLkV RX8 35 4 M_Jx4a65c_add_9ea2d 1 := ⟨TJx4a65c, 3, rfl, (gIn (List.mem_of_getElem? (i := 485) (by decide +kernel)) (by decide +kernel)), (gIn (List.mem_of_getElem? (i := 413) (by decide +kernel)) (by decide +kernel)), (gIn (List.mem_of_getElem? (i := 414) (by decide +kernel)) (by decide +kernel)), (gIn (List.mem_of_getElem? (i := 85) (by decide +kernel)) (by decide +kernel)), (gIn (List.mem_of_getElem? (i := 415) (by decide +kernel)) (by decide +kernel)), rfl, ⟨by decide +kernel, by decide +kernel, by decide +kernel⟩⟩
set_option maxRecDepth 100000 in
theorem kX8_39 : gLkSN RX8 "MailOffice" 39 M_X9_isPrefix 2 := ⟨(gInF (List.mem_of_getElem? (i := 863) (by decide +kernel)) (by decide +kernel)), (gIn (List.mem_of_getElem? (i := 864) (by decide +kernel)) (by decide +kernel)), (gIn (List.mem_of_getElem? (i := 81) (by decide +kernel)) (by decide +kernel)), (gIn (List.mem_of_getElem? (i := 865) (by decide +kernel)) (by decide +kernel)), rfl, ⟨by decide +kernel, by decide +kernel, by decide +kernel⟩⟩
set_option maxRecDepth 100000 in
theorem kX8_43 : gLkSN RX8 "MailOffice" 43 M_X9_isRoute 1 := ⟨(gInF (List.mem_of_getElem? (i := 867) (by decide +kernel)) (by decide +kernel)), (gIn (List.mem_of_getElem? (i := 523) (by decide +kernel)) (by decide +kernel)), (gIn (List.mem_of_getElem? (i := 81) (by decide +kernel)) (by decide +kernel)), (gIn (List.mem_of_getElem? (i := 524) (by decide +kernel)) (by decide +kernel)), rfl, ⟨by decide +kernel, by decide +kernel, by decide +kernel⟩⟩
set_option maxRecDepth 100000 in
theorem kX8_47 : gLkV RX8 47 11 M_X8_positionOf 2 := ⟨TX8, 2, rfl, (gIn (List.mem_of_getElem? (i := 868) (by decide +kernel)) (by decide +kernel)), (gIn (List.mem_of_getElem? (i := 869) (by decide +kernel)) (by decide +kernel)), (gIn (List.mem_of_getElem? (i := 870) (by decide +kernel)) (by decide +kernel)), (gIn (List.mem_of_getElem? (i := 86) (by decide +kernel)) (by decide +kernel)), (gIn (List.mem_of_getElem? (i := 871) (by decide +kernel)) (by decide +kernel)), rfl, ⟨by decide +kernel, by decide +kernel, by decide +kernel⟩⟩
set_option maxRecDepth 100000 in
theorem kX8_51 : gLkV RX8 51 4 M_Jx4a65c_remove_915e3 1 := ⟨TJx4a65c, 3, rfl, (gIn (List.mem_of_getElem? (i := 884) (by decide +kernel)) (by decide +kernel)), (gIn (List.mem_of_getElem? (i := 673) (by decide +kernel)) (by decide +kernel)), (gIn (List.mem_of_getElem? (i := 674) (by decide +kernel)) (by decide +kernel)), (gIn (List.mem_of_getElem? (i := 85) (by decide +kernel)) (by decide +kernel)), (gIn (List.mem_of_getElem? (i := 675) (by decide +kernel)) (by decide +kernel)), rfl, ⟨by decide +kernel, by decide +kernel, by decide +kernel⟩⟩
set_option maxRecDepth 100000 in
theorem fX8_54 : gFld RX8 54 9 2 (.int) true := ⟨_, "MailOffice$Prefix", TX6, 5, tyX6, rfl, by decide, inGX6, (gIn (List.mem_of_getElem? (i := 183) (by decide +kernel)) (by decide +kernel)), Or.inl rfl, tyX6_ok, nmX6, rfl, rfl⟩
set_option maxRecDepth 100000 in
theorem fX8_58 : gFld RX8 58 9 0 (.int) true := ⟨_, "MailOffice$Prefix", TX6, 5, tyX6, rfl, by decide, inGX6, (gIn (List.mem_of_getElem? (i := 177) (by decide +kernel)) (by decide +kernel)), Or.inl rfl, tyX6_ok, nmX6, rfl, rfl⟩
set_option maxRecDepth 100000 in
theorem fX8_61 : gFld RX8 61 9 1 (.int) true := ⟨_, "MailOffice$Prefix", TX6, 5, tyX6, rfl, by decide, inGX6, (gIn (List.mem_of_getElem? (i := 180) (by decide +kernel)) (by decide +kernel)), Or.inl rfl, tyX6_ok, nmX6, rfl, rfl⟩
set_option maxRecDepth 100000 in
theorem fX8_64 : gFld RX8 64 9 4 (.int) true := ⟨_, "MailOffice$Prefix", TX6, 5, tyX6, rfl, by decide, inGX6, (gIn (List.mem_of_getElem? (i := 191) (by decide +kernel)) (by decide +kernel)), Or.inl rfl, tyX6_ok, nmX6, rfl, rfl⟩
set_option maxRecDepth 100000 in
theorem fX8_67 : gFld RX8 67 9 3 (.int) true := ⟨_, "MailOffice$Prefix", TX6, 5, tyX6, rfl, by decide, inGX6, (gIn (List.mem_of_getElem? (i := 188) (by decide +kernel)) (by decide +kernel)), Or.inl rfl, tyX6_ok, nmX6, rfl, rfl⟩
set_option maxRecDepth 100000 in
theorem kX8_70 : gLkV RX8 70 11 M_X8_longestMatch 2 := ⟨TX8, 2, rfl, (gIn (List.mem_of_getElem? (i := 1124) (by decide +kernel)) (by decide +kernel)), (gIn (List.mem_of_getElem? (i := 511) (by decide +kernel)) (by decide +kernel)), (gIn (List.mem_of_getElem? (i := 512) (by decide +kernel)) (by decide +kernel)), (gIn (List.mem_of_getElem? (i := 86) (by decide +kernel)) (by decide +kernel)), (gIn (List.mem_of_getElem? (i := 513) (by decide +kernel)) (by decide +kernel)), rfl, ⟨by decide +kernel, by decide +kernel, by decide +kernel⟩⟩
set_option maxRecDepth 100000 in
theorem kX9_9 : gLkI RX9 9 M_X4_init 0 := ⟨(gIn (List.mem_of_getElem? (i := 129) (by decide +kernel)) (by decide +kernel)), rfl, rfl, (gIn (List.mem_of_getElem? (i := 130) (by decide +kernel)) (by decide +kernel)), (gIn (List.mem_of_getElem? (i := 82) (by decide +kernel)) (by decide +kernel)), (gIn (List.mem_of_getElem? (i := 131) (by decide +kernel)) (by decide +kernel)), rfl, ⟨by decide +kernel, by decide +kernel, by decide +kernel⟩⟩
set_option maxRecDepth 100000 in
theorem fX9_10 : gFld RX9 10 12 0 (.object "MailOffice$Office") false := ⟨_, "MailOffice", TX9, 9, tyX9, rfl, by decide, inGX9, (gIn (List.mem_of_getElem? (i := 310) (by decide +kernel)) (by decide +kernel)), Or.inl rfl, tyX9_ok, nmX9, rfl, rfl⟩
set_option maxRecDepth 100000 in
theorem fX9_16 : gFld RX9 16 12 1 (.object "MailOffice$Office") false := ⟨_, "MailOffice", TX9, 9, tyX9, rfl, by decide, inGX9, (gIn (List.mem_of_getElem? (i := 311) (by decide +kernel)) (by decide +kernel)), Or.inl rfl, tyX9_ok, nmX9, rfl, rfl⟩
set_option maxRecDepth 100000 in
theorem kX9_21 : gLkI RX9 21 M_Jx4a65c_init_da8c8 0 := ⟨(gIn (List.mem_of_getElem? (i := 259) (by decide +kernel)) (by decide +kernel)), rfl, rfl, (gIn (List.mem_of_getElem? (i := 136) (by decide +kernel)) (by decide +kernel)), (gIn (List.mem_of_getElem? (i := 85) (by decide +kernel)) (by decide +kernel)), (gIn (List.mem_of_getElem? (i := 137) (by decide +kernel)) (by decide +kernel)), rfl, ⟨by decide +kernel, by decide +kernel, by decide +kernel⟩⟩
set_option maxRecDepth 100000 in
theorem fX9_22 : gFld RX9 22 12 2 (.object "java/util/ArrayList") true := ⟨_, "MailOffice", TX9, 9, tyX9, rfl, by decide, inGX9, (gIn (List.mem_of_getElem? (i := 312) (by decide +kernel)) (by decide +kernel)), Or.inl rfl, tyX9_ok, nmX9, rfl, rfl⟩
set_option maxRecDepth 100000 in
theorem kX9_28 : gLkIN RX9 "MailOffice" 28 M_X7_init 0 := ⟨(gInF (List.mem_of_getElem? (i := 262) (by decide +kernel)) (by decide +kernel)), rfl, rfl, (gIn (List.mem_of_getElem? (i := 263) (by decide +kernel)) (by decide +kernel)), (gIn (List.mem_of_getElem? (i := 88) (by decide +kernel)) (by decide +kernel)), (gIn (List.mem_of_getElem? (i := 264) (by decide +kernel)) (by decide +kernel)), rfl, ⟨by decide +kernel, by decide +kernel, by decide +kernel⟩⟩
set_option maxRecDepth 100000 in
theorem fX9_29 : gFld RX9 29 12 3 (.object "MailOffice$PrefixTree") true := ⟨_, "MailOffice", TX9, 9, tyX9, rfl, by decide, inGX9, (gIn (List.mem_of_getElem? (i := 313) (by decide +kernel)) (by decide +kernel)), Or.inl rfl, tyX9_ok, nmX9, rfl, rfl⟩
set_option maxRecDepth 100000 in
theorem fX9_33 : gFld RX9 33 12 4 (.array .char) true := ⟨_, "MailOffice", TX9, 9, tyX9, rfl, by decide, inGX9, (gIn (List.mem_of_getElem? (i := 314) (by decide +kernel)) (by decide +kernel)), Or.inl rfl, tyX9_ok, nmX9, rfl, rfl⟩
set_option maxRecDepth 100000 in
theorem fX9_37 : gFld RX9 37 12 5 (.int) false := ⟨_, "MailOffice", TX9, 9, tyX9, rfl, by decide, inGX9, (gIn (List.mem_of_getElem? (i := 315) (by decide +kernel)) (by decide +kernel)), Or.inl rfl, tyX9_ok, nmX9, rfl, rfl⟩
set_option maxRecDepth 100000 in
theorem kX9_43 : gLkI RX9 43 M_J4_init_da8c8 0 := ⟨(gIn (List.mem_of_getElem? (i := 278) (by decide +kernel)) (by decide +kernel)), rfl, rfl, (gIn (List.mem_of_getElem? (i := 279) (by decide +kernel)) (by decide +kernel)), (gIn (List.mem_of_getElem? (i := 90) (by decide +kernel)) (by decide +kernel)), (gIn (List.mem_of_getElem? (i := 280) (by decide +kernel)) (by decide +kernel)), rfl, ⟨by decide +kernel, by decide +kernel, by decide +kernel⟩⟩
set_option maxRecDepth 100000 in
theorem fX9_44 : gFld RX9 44 12 6 (.object "java/lang/StringBuilder") true := ⟨_, "MailOffice", TX9, 9, tyX9, rfl, by decide, inGX9, (gIn (List.mem_of_getElem? (i := 316) (by decide +kernel)) (by decide +kernel)), Or.inl rfl, tyX9_ok, nmX9, rfl, rfl⟩
set_option maxRecDepth 100000 in
theorem fX9_48 : gFld RX9 48 12 7 (.int) false := ⟨_, "MailOffice", TX9, 9, tyX9, rfl, by decide, inGX9, (gIn (List.mem_of_getElem? (i := 317) (by decide +kernel)) (by decide +kernel)), Or.inl rfl, tyX9_ok, nmX9, rfl, rfl⟩
set_option maxRecDepth 100000 in
theorem fX9_51 : gFld RX9 51 12 8 (.int) false := ⟨_, "MailOffice", TX9, 9, tyX9, rfl, by decide, inGX9, (gIn (List.mem_of_getElem? (i := 318) (by decide +kernel)) (by decide +kernel)), Or.inl rfl, tyX9_ok, nmX9, rfl, rfl⟩
set_option maxRecDepth 100000 in
theorem kX9_54 : gLkV RX9 54 7 M_X4_duplicate 0 := ⟨TX4, 11, rfl, (gIn (List.mem_of_getElem? (i := 342) (by decide +kernel)) (by decide +kernel)), (gIn (List.mem_of_getElem? (i := 343) (by decide +kernel)) (by decide +kernel)), (gIn (List.mem_of_getElem? (i := 344) (by decide +kernel)) (by decide +kernel)), (gIn (List.mem_of_getElem? (i := 82) (by decide +kernel)) (by decide +kernel)), (gIn (List.mem_of_getElem? (i := 345) (by decide +kernel)) (by decide +kernel)), rfl, ⟨by decide +kernel, by decide +kernel, by decide +kernel⟩⟩
set_option maxRecDepth 100000 in
theorem kX9_58 : gLkV RX9 58 7 M_X4_takeIn 3 := ⟨TX4, 11, rfl, (gIn (List.mem_of_getElem? (i := 823) (by decide +kernel)) (by decide +kernel)), (gIn (List.mem_of_getElem? (i := 824) (by decide +kernel)) (by decide +kernel)), (gIn (List.mem_of_getElem? (i := 825) (by decide +kernel)) (by decide +kernel)), (gIn (List.mem_of_getElem? (i := 82) (by decide +kernel)) (by decide +kernel)), (gIn (List.mem_of_getElem? (i := 826) (by decide +kernel)) (by decide +kernel)), rfl, ⟨by decide +kernel, by decide +kernel, by decide +kernel⟩⟩
set_option maxRecDepth 100000 in
theorem kX9_62 : gLkV RX9 62 12 M_X9_concluded 2 := ⟨TX9, 9, rfl, (gIn (List.mem_of_getElem? (i := 541) (by decide +kernel)) (by decide +kernel)), (gIn (List.mem_of_getElem? (i := 543) (by decide +kernel)) (by decide +kernel)), (gIn (List.mem_of_getElem? (i := 9) (by decide +kernel)) (by decide +kernel)), (gIn (List.mem_of_getElem? (i := 81) (by decide +kernel)) (by decide +kernel)), (gIn (List.mem_of_getElem? (i := 544) (by decide +kernel)) (by decide +kernel)), rfl, ⟨by decide +kernel, by decide +kernel, by decide +kernel⟩⟩
set_option maxRecDepth 100000 in
theorem fX9_66 : gFld RX9 66 7 1 (.object "MailOffice$RoutingTable") true := ⟨_, "MailOffice$Office", TX4, 11, tyX4, rfl, by decide, inGX4, (gIn (List.mem_of_getElem? (i := 216) (by decide +kernel)) (by decide +kernel)), Or.inl rfl, tyX4_ok, nmX4, rfl, rfl⟩
set_option maxRecDepth 100000 in
theorem kX9_70 : gLkV RX9 70 11 M_X8_enter 3 := ⟨TX8, 2, rfl, (gIn (List.mem_of_getElem? (i := 859) (by decide +kernel)) (by decide +kernel)), (gIn (List.mem_of_getElem? (i := 860) (by decide +kernel)) (by decide +kernel)), (gIn (List.mem_of_getElem? (i := 861) (by decide +kernel)) (by decide +kernel)), (gIn (List.mem_of_getElem? (i := 86) (by decide +kernel)) (by decide +kernel)), (gIn (List.mem_of_getElem? (i := 862) (by decide +kernel)) (by decide +kernel)), rfl, ⟨by decide +kernel, by decide +kernel, by decide +kernel⟩⟩
set_option maxRecDepth 100000 in
theorem kX9_76 : gLkV RX9 76 11 M_X8_strike 2 := ⟨TX8, 2, rfl, (gIn (List.mem_of_getElem? (i := 880) (by decide +kernel)) (by decide +kernel)), (gIn (List.mem_of_getElem? (i := 881) (by decide +kernel)) (by decide +kernel)), (gIn (List.mem_of_getElem? (i := 882) (by decide +kernel)) (by decide +kernel)), (gIn (List.mem_of_getElem? (i := 86) (by decide +kernel)) (by decide +kernel)), (gIn (List.mem_of_getElem? (i := 883) (by decide +kernel)) (by decide +kernel)), rfl, ⟨by decide +kernel, by decide +kernel, by decide +kernel⟩⟩
set_option maxRecDepth 100000 in
theorem kX9_80 : gLkV RX9 80 7 M_X4_sortById 1 := ⟨TX4, 11, rfl, (gIn (List.mem_of_getElem? (i := 892) (by decide +kernel)) (by decide +kernel)), (gIn (List.mem_of_getElem? (i := 893) (by decide +kernel)) (by decide +kernel)), (gIn (List.mem_of_getElem? (i := 894) (by decide +kernel)) (by decide +kernel)), (gIn (List.mem_of_getElem? (i := 82) (by decide +kernel)) (by decide +kernel)), (gIn (List.mem_of_getElem? (i := 895) (by decide +kernel)) (by decide +kernel)), rfl, ⟨by decide +kernel, by decide +kernel, by decide +kernel⟩⟩
set_option maxRecDepth 100000 in
theorem kX9_84 : gLkV RX9 84 7 M_X4_sortTray 0 := ⟨TX4, 11, rfl, (gIn (List.mem_of_getElem? (i := 486) (by decide +kernel)) (by decide +kernel)), (gIn (List.mem_of_getElem? (i := 487) (by decide +kernel)) (by decide +kernel)), (gIn (List.mem_of_getElem? (i := 488) (by decide +kernel)) (by decide +kernel)), (gIn (List.mem_of_getElem? (i := 82) (by decide +kernel)) (by decide +kernel)), (gIn (List.mem_of_getElem? (i := 489) (by decide +kernel)) (by decide +kernel)), rfl, ⟨by decide +kernel, by decide +kernel, by decide +kernel⟩⟩
set_option maxRecDepth 100000 in
theorem kX9_88 : gLkV RX9 88 7 M_X4_placeById 2 := ⟨TX4, 11, rfl, (gIn (List.mem_of_getElem? (i := 904) (by decide +kernel)) (by decide +kernel)), (gIn (List.mem_of_getElem? (i := 905) (by decide +kernel)) (by decide +kernel)), (gIn (List.mem_of_getElem? (i := 906) (by decide +kernel)) (by decide +kernel)), (gIn (List.mem_of_getElem? (i := 82) (by decide +kernel)) (by decide +kernel)), (gIn (List.mem_of_getElem? (i := 907) (by decide +kernel)) (by decide +kernel)), rfl, ⟨by decide +kernel, by decide +kernel, by decide +kernel⟩⟩
set_option maxRecDepth 100000 in
theorem kX9_91 : gLkV RX9 91 7 M_X4_takeOut 1 := ⟨TX4, 11, rfl, (gIn (List.mem_of_getElem? (i := 915) (by decide +kernel)) (by decide +kernel)), (gIn (List.mem_of_getElem? (i := 916) (by decide +kernel)) (by decide +kernel)), (gIn (List.mem_of_getElem? (i := 917) (by decide +kernel)) (by decide +kernel)), (gIn (List.mem_of_getElem? (i := 82) (by decide +kernel)) (by decide +kernel)), (gIn (List.mem_of_getElem? (i := 918) (by decide +kernel)) (by decide +kernel)), rfl, ⟨by decide +kernel, by decide +kernel, by decide +kernel⟩⟩
set_option maxRecDepth 100000 in
theorem kX9_94 : gLkV RX9 94 7 M_X4_changeCutoff 2 := ⟨TX4, 11, rfl, (gIn (List.mem_of_getElem? (i := 930) (by decide +kernel)) (by decide +kernel)), (gIn (List.mem_of_getElem? (i := 931) (by decide +kernel)) (by decide +kernel)), (gIn (List.mem_of_getElem? (i := 932) (by decide +kernel)) (by decide +kernel)), (gIn (List.mem_of_getElem? (i := 82) (by decide +kernel)) (by decide +kernel)), (gIn (List.mem_of_getElem? (i := 933) (by decide +kernel)) (by decide +kernel)), rfl, ⟨by decide +kernel, by decide +kernel, by decide +kernel⟩⟩
set_option maxRecDepth 100000 in
theorem kX9_97 : gLkV RX9 97 7 M_X4_changeDeparture 2 := ⟨TX4, 11, rfl, (gIn (List.mem_of_getElem? (i := 941) (by decide +kernel)) (by decide +kernel)), (gIn (List.mem_of_getElem? (i := 942) (by decide +kernel)) (by decide +kernel)), (gIn (List.mem_of_getElem? (i := 943) (by decide +kernel)) (by decide +kernel)), (gIn (List.mem_of_getElem? (i := 82) (by decide +kernel)) (by decide +kernel)), (gIn (List.mem_of_getElem? (i := 944) (by decide +kernel)) (by decide +kernel)), rfl, ⟨by decide +kernel, by decide +kernel, by decide +kernel⟩⟩
set_option maxRecDepth 100000 in
theorem kX9_100 : gLkV RX9 100 7 M_X4_passHours 1 := ⟨TX4, 11, rfl, (gIn (List.mem_of_getElem? (i := 952) (by decide +kernel)) (by decide +kernel)), (gIn (List.mem_of_getElem? (i := 953) (by decide +kernel)) (by decide +kernel)), (gIn (List.mem_of_getElem? (i := 954) (by decide +kernel)) (by decide +kernel)), (gIn (List.mem_of_getElem? (i := 82) (by decide +kernel)) (by decide +kernel)), (gIn (List.mem_of_getElem? (i := 955) (by decide +kernel)) (by decide +kernel)), rfl, ⟨by decide +kernel, by decide +kernel, by decide +kernel⟩⟩
set_option maxRecDepth 100000 in
theorem kX9_103 : gLkS RX9 103 M_X9_raise 1 := ⟨(gIn (List.mem_of_getElem? (i := 545) (by decide +kernel)) (by decide +kernel)), (gIn (List.mem_of_getElem? (i := 546) (by decide +kernel)) (by decide +kernel)), (gIn (List.mem_of_getElem? (i := 81) (by decide +kernel)) (by decide +kernel)), (gIn (List.mem_of_getElem? (i := 547) (by decide +kernel)) (by decide +kernel)), rfl, ⟨by decide +kernel, by decide +kernel, by decide +kernel⟩⟩
set_option maxRecDepth 100000 in
theorem kX9_107 : gLkV RX9 107 12 M_X9_keepForUndo 1 := ⟨TX9, 9, rfl, (gIn (List.mem_of_getElem? (i := 667) (by decide +kernel)) (by decide +kernel)), (gIn (List.mem_of_getElem? (i := 669) (by decide +kernel)) (by decide +kernel)), (gIn (List.mem_of_getElem? (i := 11) (by decide +kernel)) (by decide +kernel)), (gIn (List.mem_of_getElem? (i := 81) (by decide +kernel)) (by decide +kernel)), (gIn (List.mem_of_getElem? (i := 670) (by decide +kernel)) (by decide +kernel)), rfl, ⟨by decide +kernel, by decide +kernel, by decide +kernel⟩⟩
set_option maxRecDepth 100000 in
theorem kX9_133 : gLkV RX9 133 4 M_Jx4a65c_size_8abf5 0 := ⟨TJx4a65c, 3, rfl, (gIn (List.mem_of_getElem? (i := 671) (by decide +kernel)) (by decide +kernel)), (gIn (List.mem_of_getElem? (i := 349) (by decide +kernel)) (by decide +kernel)), (gIn (List.mem_of_getElem? (i := 350) (by decide +kernel)) (by decide +kernel)), (gIn (List.mem_of_getElem? (i := 85) (by decide +kernel)) (by decide +kernel)), (gIn (List.mem_of_getElem? (i := 351) (by decide +kernel)) (by decide +kernel)), rfl, ⟨by decide +kernel, by decide +kernel, by decide +kernel⟩⟩
set_option maxRecDepth 100000 in
theorem kX9_136 : gLkV RX9 136 4 M_Jx4a65c_remove_915e3 1 := ⟨TJx4a65c, 3, rfl, (gIn (List.mem_of_getElem? (i := 672) (by decide +kernel)) (by decide +kernel)), (gIn (List.mem_of_getElem? (i := 673) (by decide +kernel)) (by decide +kernel)), (gIn (List.mem_of_getElem? (i := 674) (by decide +kernel)) (by decide +kernel)), (gIn (List.mem_of_getElem? (i := 85) (by decide +kernel)) (by decide +kernel)), (gIn (List.mem_of_getElem? (i := 675) (by decide +kernel)) (by decide +kernel)), rfl, ⟨by decide +kernel, by decide +kernel, by decide +kernel⟩⟩
set_option maxRecDepth 100000 in
theorem kX9_140 : gLkV RX9 140 4 M_Jx4a65c_add_9ea2d 1 := ⟨TJx4a65c, 3, rfl, (gIn (List.mem_of_getElem? (i := 681) (by decide +kernel)) (by decide +kernel)), (gIn (List.mem_of_getElem? (i := 413) (by decide +kernel)) (by decide +kernel)), (gIn (List.mem_of_getElem? (i := 414) (by decide +kernel)) (by decide +kernel)), (gIn (List.mem_of_getElem? (i := 85) (by decide +kernel)) (by decide +kernel)), (gIn (List.mem_of_getElem? (i := 415) (by decide +kernel)) (by decide +kernel)), rfl, ⟨by decide +kernel, by decide +kernel, by decide +kernel⟩⟩
set_option maxRecDepth 100000 in
theorem fX9_144 : gFld RX9 144 7 5 (.int) false := ⟨_, "MailOffice$Office", TX4, 11, tyX4, rfl, by decide, inGX4, (gIn (List.mem_of_getElem? (i := 223) (by decide +kernel)) (by decide +kernel)), Or.inl rfl, tyX4_ok, nmX4, rfl, rfl⟩
set_option maxRecDepth 100000 in
theorem fX9_147 : gFld RX9 147 7 6 (.int) false := ⟨_, "MailOffice$Office", TX4, 11, tyX4, rfl, by decide, inGX4, (gIn (List.mem_of_getElem? (i := 225) (by decide +kernel)) (by decide +kernel)), Or.inl rfl, tyX4_ok, nmX4, rfl, rfl⟩
set_option maxRecDepth 100000 in
theorem fX9_150 : gFld RX9 150 7 0 (.object "java/util/ArrayList") true := ⟨_, "MailOffice$Office", TX4, 11, tyX4, rfl, by decide, inGX4, (gIn (List.mem_of_getElem? (i := 213) (by decide +kernel)) (by decide +kernel)), Or.inl rfl, tyX4_ok, nmX4, rfl, rfl⟩
set_option maxRecDepth 100000 in
theorem kX9_153 : gLkV RX9 153 7 M_X4_letterWith 1 := ⟨TX4, 11, rfl, (gIn (List.mem_of_getElem? (i := 698) (by decide +kernel)) (by decide +kernel)), (gIn (List.mem_of_getElem? (i := 699) (by decide +kernel)) (by decide +kernel)), (gIn (List.mem_of_getElem? (i := 700) (by decide +kernel)) (by decide +kernel)), (gIn (List.mem_of_getElem? (i := 82) (by decide +kernel)) (by decide +kernel)), (gIn (List.mem_of_getElem? (i := 701) (by decide +kernel)) (by decide +kernel)), rfl, ⟨by decide +kernel, by decide +kernel, by decide +kernel⟩⟩
set_option maxRecDepth 100000 in
theorem kX9_159 : gLkV RX9 159 4 M_Jx4a65c_get_915e3 1 := ⟨TJx4a65c, 3, rfl, (gIn (List.mem_of_getElem? (i := 978) (by decide +kernel)) (by decide +kernel)), (gIn (List.mem_of_getElem? (i := 353) (by decide +kernel)) (by decide +kernel)), (gIn (List.mem_of_getElem? (i := 354) (by decide +kernel)) (by decide +kernel)), (gIn (List.mem_of_getElem? (i := 85) (by decide +kernel)) (by decide +kernel)), (gIn (List.mem_of_getElem? (i := 355) (by decide +kernel)) (by decide +kernel)), rfl, ⟨by decide +kernel, by decide +kernel, by decide +kernel⟩⟩
set_option maxRecDepth 100000 in
theorem fX9_164 : gFld RX9 164 6 0 (.int) true := ⟨_, "MailOffice$Letter", TX3, 7, tyX3, rfl, by decide, inGX3, (gIn (List.mem_of_getElem? (i := 379) (by decide +kernel)) (by decide +kernel)), Or.inl rfl, tyX3_ok, nmX3, rfl, rfl⟩
set_option maxRecDepth 100000 in
theorem kX9_167 : gLkV RX9 167 12 M_X9_presentLetter 1 := ⟨TX9, 9, rfl, (gIn (List.mem_of_getElem? (i := 987) (by decide +kernel)) (by decide +kernel)), (gIn (List.mem_of_getElem? (i := 989) (by decide +kernel)) (by decide +kernel)), (gIn (List.mem_of_getElem? (i := 20) (by decide +kernel)) (by decide +kernel)), (gIn (List.mem_of_getElem? (i := 81) (by decide +kernel)) (by decide +kernel)), (gIn (List.mem_of_getElem? (i := 990) (by decide +kernel)) (by decide +kernel)), rfl, ⟨by decide +kernel, by decide +kernel, by decide +kernel⟩⟩
set_option maxRecDepth 100000 in
theorem fX9_170 : gFld RX9 170 6 1 (.int) true := ⟨_, "MailOffice$Letter", TX3, 7, tyX3, rfl, by decide, inGX3, (gIn (List.mem_of_getElem? (i := 382) (by decide +kernel)) (by decide +kernel)), Or.inl rfl, tyX3_ok, nmX3, rfl, rfl⟩
set_option maxRecDepth 100000 in
theorem fX9_173 : gFld RX9 173 6 2 (.int) true := ⟨_, "MailOffice$Letter", TX3, 7, tyX3, rfl, by decide, inGX3, (gIn (List.mem_of_getElem? (i := 385) (by decide +kernel)) (by decide +kernel)), Or.inl rfl, tyX3_ok, nmX3, rfl, rfl⟩
set_option maxRecDepth 100000 in
theorem fX9_176 : gFld RX9 176 6 3 (.boolean) true := ⟨_, "MailOffice$Letter", TX3, 7, tyX3, rfl, by decide, inGX3, (gIn (List.mem_of_getElem? (i := 388) (by decide +kernel)) (by decide +kernel)), Or.inl rfl, tyX3_ok, nmX3, rfl, rfl⟩
set_option maxRecDepth 100000 in
theorem fX9_180 : gFld RX9 180 6 4 (.int) false := ⟨_, "MailOffice$Letter", TX3, 7, tyX3, rfl, by decide, inGX3, (gIn (List.mem_of_getElem? (i := 391) (by decide +kernel)) (by decide +kernel)), Or.inl rfl, tyX3_ok, nmX3, rfl, rfl⟩
set_option maxRecDepth 100000 in
theorem kX9_183 : gLkV RX9 183 6 M_X3_inTray 0 := ⟨TX3, 7, rfl, (gIn (List.mem_of_getElem? (i := 1020) (by decide +kernel)) (by decide +kernel)), (gIn (List.mem_of_getElem? (i := 499) (by decide +kernel)) (by decide +kernel)), (gIn (List.mem_of_getElem? (i := 500) (by decide +kernel)) (by decide +kernel)), (gIn (List.mem_of_getElem? (i := 96) (by decide +kernel)) (by decide +kernel)), (gIn (List.mem_of_getElem? (i := 501) (by decide +kernel)) (by decide +kernel)), rfl, ⟨by decide +kernel, by decide +kernel, by decide +kernel⟩⟩
set_option maxRecDepth 100000 in
theorem kX9_187 : gLkV RX9 187 12 M_X9_baggedLetter 1 := ⟨TX9, 9, rfl, (gIn (List.mem_of_getElem? (i := 1028) (by decide +kernel)) (by decide +kernel)), (gIn (List.mem_of_getElem? (i := 1030) (by decide +kernel)) (by decide +kernel)), (gIn (List.mem_of_getElem? (i := 21) (by decide +kernel)) (by decide +kernel)), (gIn (List.mem_of_getElem? (i := 81) (by decide +kernel)) (by decide +kernel)), (gIn (List.mem_of_getElem? (i := 1031) (by decide +kernel)) (by decide +kernel)), rfl, ⟨by decide +kernel, by decide +kernel, by decide +kernel⟩⟩
set_option maxRecDepth 100000 in
theorem fX9_190 : gFld RX9 190 6 5 (.int) false := ⟨_, "MailOffice$Letter", TX3, 7, tyX3, rfl, by decide, inGX3, (gIn (List.mem_of_getElem? (i := 394) (by decide +kernel)) (by decide +kernel)), Or.inl rfl, tyX3_ok, nmX3, rfl, rfl⟩
set_option maxRecDepth 100000 in
theorem fX9_193 : gFld RX9 193 6 6 (.int) false := ⟨_, "MailOffice$Letter", TX3, 7, tyX3, rfl, by decide, inGX3, (gIn (List.mem_of_getElem? (i := 396) (by decide +kernel)) (by decide +kernel)), Or.inl rfl, tyX3_ok, nmX3, rfl, rfl⟩
set_option maxRecDepth 100000 in
theorem kX9_196 : gLkV RX9 196 7 M_X4_wouldComeBack 1 := ⟨TX4, 11, rfl, (gIn (List.mem_of_getElem? (i := 1047) (by decide +kernel)) (by decide +kernel)), (gIn (List.mem_of_getElem? (i := 732) (by decide +kernel)) (by decide +kernel)), (gIn (List.mem_of_getElem? (i := 733) (by decide +kernel)) (by decide +kernel)), (gIn (List.mem_of_getElem? (i := 82) (by decide +kernel)) (by decide +kernel)), (gIn (List.mem_of_getElem? (i := 734) (by decide +kernel)) (by decide +kernel)), rfl, ⟨by decide +kernel, by decide +kernel, by decide +kernel⟩⟩
set_option maxRecDepth 100000 in
theorem kX9_200 : gLkV RX9 200 7 M_X4_sortingBag 1 := ⟨TX4, 11, rfl, (gIn (List.mem_of_getElem? (i := 1055) (by decide +kernel)) (by decide +kernel)), (gIn (List.mem_of_getElem? (i := 1056) (by decide +kernel)) (by decide +kernel)), (gIn (List.mem_of_getElem? (i := 1057) (by decide +kernel)) (by decide +kernel)), (gIn (List.mem_of_getElem? (i := 82) (by decide +kernel)) (by decide +kernel)), (gIn (List.mem_of_getElem? (i := 1058) (by decide +kernel)) (by decide +kernel)), rfl, ⟨by decide +kernel, by decide +kernel, by decide +kernel⟩⟩
set_option maxRecDepth 100000 in
theorem kX9_208 : gLkV RX9 208 7 M_X4_countLate 0 := ⟨TX4, 11, rfl, (gIn (List.mem_of_getElem? (i := 710) (by decide +kernel)) (by decide +kernel)), (gIn (List.mem_of_getElem? (i := 711) (by decide +kernel)) (by decide +kernel)), (gIn (List.mem_of_getElem? (i := 712) (by decide +kernel)) (by decide +kernel)), (gIn (List.mem_of_getElem? (i := 82) (by decide +kernel)) (by decide +kernel)), (gIn (List.mem_of_getElem? (i := 713) (by decide +kernel)) (by decide +kernel)), rfl, ⟨by decide +kernel, by decide +kernel, by decide +kernel⟩⟩
set_option maxRecDepth 100000 in
theorem kX9_211 : gLkV RX9 211 7 M_X4_orderedTray 0 := ⟨TX4, 11, rfl, (gIn (List.mem_of_getElem? (i := 718) (by decide +kernel)) (by decide +kernel)), (gIn (List.mem_of_getElem? (i := 491) (by decide +kernel)) (by decide +kernel)), (gIn (List.mem_of_getElem? (i := 492) (by decide +kernel)) (by decide +kernel)), (gIn (List.mem_of_getElem? (i := 82) (by decide +kernel)) (by decide +kernel)), (gIn (List.mem_of_getElem? (i := 493) (by decide +kernel)) (by decide +kernel)), rfl, ⟨by decide +kernel, by decide +kernel, by decide +kernel⟩⟩
set_option maxRecDepth 100000 in
theorem fX9_217 : gFld RX9 217 11 0 (.object "java/util/ArrayList") true := ⟨_, "MailOffice$RoutingTable", TX8, 2, tyX8, rfl, by decide, inGX8, (gIn (List.mem_of_getElem? (i := 205) (by decide +kernel)) (by decide +kernel)), Or.inl rfl, tyX8_ok, nmX8, rfl, rfl⟩
set_option maxRecDepth 100000 in
theorem kX9_220 : gLkS RX9 220 M_X9_isPrefix 2 := ⟨(gIn (List.mem_of_getElem? (i := 1074) (by decide +kernel)) (by decide +kernel)), (gIn (List.mem_of_getElem? (i := 864) (by decide +kernel)) (by decide +kernel)), (gIn (List.mem_of_getElem? (i := 81) (by decide +kernel)) (by decide +kernel)), (gIn (List.mem_of_getElem? (i := 865) (by decide +kernel)) (by decide +kernel)), rfl, ⟨by decide +kernel, by decide +kernel, by decide +kernel⟩⟩
set_option maxRecDepth 100000 in
theorem kX9_226 : gLkV RX9 226 11 M_X8_positionOf 2 := ⟨TX8, 2, rfl, (gIn (List.mem_of_getElem? (i := 1076) (by decide +kernel)) (by decide +kernel)), (gIn (List.mem_of_getElem? (i := 869) (by decide +kernel)) (by decide +kernel)), (gIn (List.mem_of_getElem? (i := 870) (by decide +kernel)) (by decide +kernel)), (gIn (List.mem_of_getElem? (i := 86) (by decide +kernel)) (by decide +kernel)), (gIn (List.mem_of_getElem? (i := 871) (by decide +kernel)) (by decide +kernel)), rfl, ⟨by decide +kernel, by decide +kernel, by decide +kernel⟩⟩
set_option maxRecDepth 100000 in
theorem kX9_229 : gLkS RX9 229 M_X9_requireCode 1 := ⟨(gIn (List.mem_of_getElem? (i := 1084) (by decide +kernel)) (by decide +kernel)), (gIn (List.mem_of_getElem? (i := 1085) (by decide +kernel)) (by decide +kernel)), (gIn (List.mem_of_getElem? (i := 81) (by decide +kernel)) (by decide +kernel)), (gIn (List.mem_of_getElem? (i := 1086) (by decide +kernel)) (by decide +kernel)), rfl, ⟨by decide +kernel, by decide +kernel, by decide +kernel⟩⟩
set_option maxRecDepth 100000 in
theorem kX9_232 : gLkV RX9 232 11 M_X8_longestMatch 2 := ⟨TX8, 2, rfl, (gIn (List.mem_of_getElem? (i := 1089) (by decide +kernel)) (by decide +kernel)), (gIn (List.mem_of_getElem? (i := 511) (by decide +kernel)) (by decide +kernel)), (gIn (List.mem_of_getElem? (i := 512) (by decide +kernel)) (by decide +kernel)), (gIn (List.mem_of_getElem? (i := 86) (by decide +kernel)) (by decide +kernel)), (gIn (List.mem_of_getElem? (i := 513) (by decide +kernel)) (by decide +kernel)), rfl, ⟨by decide +kernel, by decide +kernel, by decide +kernel⟩⟩
set_option maxRecDepth 100000 in
theorem fX9_236 : gFld RX9 236 9 2 (.int) true := ⟨_, "MailOffice$Prefix", TX6, 5, tyX6, rfl, by decide, inGX6, (gIn (List.mem_of_getElem? (i := 186) (by decide +kernel)) (by decide +kernel)), Or.inl rfl, tyX6_ok, nmX6, rfl, rfl⟩
set_option maxRecDepth 100000 in
theorem kX9_239 : gLkS RX9 239 M_X9_foundRoute 1 := ⟨(gIn (List.mem_of_getElem? (i := 1090) (by decide +kernel)) (by decide +kernel)), (gIn (List.mem_of_getElem? (i := 1091) (by decide +kernel)) (by decide +kernel)), (gIn (List.mem_of_getElem? (i := 81) (by decide +kernel)) (by decide +kernel)), (gIn (List.mem_of_getElem? (i := 1092) (by decide +kernel)) (by decide +kernel)), rfl, ⟨by decide +kernel, by decide +kernel, by decide +kernel⟩⟩
set_option maxRecDepth 100000 in
theorem kX9_242 : gLkV RX9 242 10 M_X7_build 1 := ⟨TX7, 3, rfl, (gIn (List.mem_of_getElem? (i := 751) (by decide +kernel)) (by decide +kernel)), (gIn (List.mem_of_getElem? (i := 752) (by decide +kernel)) (by decide +kernel)), (gIn (List.mem_of_getElem? (i := 753) (by decide +kernel)) (by decide +kernel)), (gIn (List.mem_of_getElem? (i := 88) (by decide +kernel)) (by decide +kernel)), (gIn (List.mem_of_getElem? (i := 754) (by decide +kernel)) (by decide +kernel)), rfl, ⟨by decide +kernel, by decide +kernel, by decide +kernel⟩⟩
set_option maxRecDepth 100000 in
theorem kX9_246 : gLkV RX9 246 10 M_X7_routeOfCode 1 := ⟨TX7, 3, rfl, (gIn (List.mem_of_getElem? (i := 1101) (by decide +kernel)) (by decide +kernel)), (gIn (List.mem_of_getElem? (i := 779) (by decide +kernel)) (by decide +kernel)), (gIn (List.mem_of_getElem? (i := 780) (by decide +kernel)) (by decide +kernel)), (gIn (List.mem_of_getElem? (i := 88) (by decide +kernel)) (by decide +kernel)), (gIn (List.mem_of_getElem? (i := 781) (by decide +kernel)) (by decide +kernel)), rfl, ⟨by decide +kernel, by decide +kernel, by decide +kernel⟩⟩
set_option maxRecDepth 100000 in
theorem fX9_249 : gFld RX9 249 9 1 (.int) true := ⟨_, "MailOffice$Prefix", TX6, 5, tyX6, rfl, by decide, inGX6, (gIn (List.mem_of_getElem? (i := 181) (by decide +kernel)) (by decide +kernel)), Or.inl rfl, tyX6_ok, nmX6, rfl, rfl⟩
set_option maxRecDepth 100000 in
theorem kX9_252 : gLkS RX9 252 M_X9_requireRoute 1 := ⟨(gIn (List.mem_of_getElem? (i := 1116) (by decide +kernel)) (by decide +kernel)), (gIn (List.mem_of_getElem? (i := 1117) (by decide +kernel)) (by decide +kernel)), (gIn (List.mem_of_getElem? (i := 81) (by decide +kernel)) (by decide +kernel)), (gIn (List.mem_of_getElem? (i := 1118) (by decide +kernel)) (by decide +kernel)), rfl, ⟨by decide +kernel, by decide +kernel, by decide +kernel⟩⟩
set_option maxRecDepth 100000 in
theorem kX9_255 : gLkV RX9 255 11 M_X8_countCodes 1 := ⟨TX8, 2, rfl, (gIn (List.mem_of_getElem? (i := 1120) (by decide +kernel)) (by decide +kernel)), (gIn (List.mem_of_getElem? (i := 1121) (by decide +kernel)) (by decide +kernel)), (gIn (List.mem_of_getElem? (i := 1122) (by decide +kernel)) (by decide +kernel)), (gIn (List.mem_of_getElem? (i := 86) (by decide +kernel)) (by decide +kernel)), (gIn (List.mem_of_getElem? (i := 1123) (by decide +kernel)) (by decide +kernel)), rfl, ⟨by decide +kernel, by decide +kernel, by decide +kernel⟩⟩
set_option maxRecDepth 100000 in
theorem kX9_258 : gLkS RX9 258 M_X9_isCode 1 := ⟨(gIn (List.mem_of_getElem? (i := 1087) (by decide +kernel)) (by decide +kernel)), (gIn (List.mem_of_getElem? (i := 828) (by decide +kernel)) (by decide +kernel)), (gIn (List.mem_of_getElem? (i := 81) (by decide +kernel)) (by decide +kernel)), (gIn (List.mem_of_getElem? (i := 829) (by decide +kernel)) (by decide +kernel)), rfl, ⟨by decide +kernel, by decide +kernel, by decide +kernel⟩⟩
set_option maxRecDepth 100000 in
theorem kX9_264 : gLkS RX9 264 M_X9_isRoute 1 := ⟨(gIn (List.mem_of_getElem? (i := 1119) (by decide +kernel)) (by decide +kernel)), (gIn (List.mem_of_getElem? (i := 523) (by decide +kernel)) (by decide +kernel)), (gIn (List.mem_of_getElem? (i := 81) (by decide +kernel)) (by decide +kernel)), (gIn (List.mem_of_getElem? (i := 524) (by decide +kernel)) (by decide +kernel)), rfl, ⟨by decide +kernel, by decide +kernel, by decide +kernel⟩⟩
set_option maxRecDepth 100000 in
theorem kX9_269 : gLkV RX9 269 7 M_X4_countBags 1 := ⟨TX4, 11, rfl, (gIn (List.mem_of_getElem? (i := 1132) (by decide +kernel)) (by decide +kernel)), (gIn (List.mem_of_getElem? (i := 795) (by decide +kernel)) (by decide +kernel)), (gIn (List.mem_of_getElem? (i := 796) (by decide +kernel)) (by decide +kernel)), (gIn (List.mem_of_getElem? (i := 82) (by decide +kernel)) (by decide +kernel)), (gIn (List.mem_of_getElem? (i := 797) (by decide +kernel)) (by decide +kernel)), rfl, ⟨by decide +kernel, by decide +kernel, by decide +kernel⟩⟩
set_option maxRecDepth 100000 in
theorem kX9_272 : gLkV RX9 272 12 M_X9_requireBag 2 := ⟨TX9, 9, rfl, (gIn (List.mem_of_getElem? (i := 1140) (by decide +kernel)) (by decide +kernel)), (gIn (List.mem_of_getElem? (i := 1142) (by decide +kernel)) (by decide +kernel)), (gIn (List.mem_of_getElem? (i := 22) (by decide +kernel)) (by decide +kernel)), (gIn (List.mem_of_getElem? (i := 81) (by decide +kernel)) (by decide +kernel)), (gIn (List.mem_of_getElem? (i := 1143) (by decide +kernel)) (by decide +kernel)), rfl, ⟨by decide +kernel, by decide +kernel, by decide +kernel⟩⟩
set_option maxRecDepth 100000 in
theorem kX9_276 : gLkV RX9 276 7 M_X4_weightInBag 2 := ⟨TX4, 11, rfl, (gIn (List.mem_of_getElem? (i := 1145) (by decide +kernel)) (by decide +kernel)), (gIn (List.mem_of_getElem? (i := 530) (by decide +kernel)) (by decide +kernel)), (gIn (List.mem_of_getElem? (i := 531) (by decide +kernel)) (by decide +kernel)), (gIn (List.mem_of_getElem? (i := 82) (by decide +kernel)) (by decide +kernel)), (gIn (List.mem_of_getElem? (i := 532) (by decide +kernel)) (by decide +kernel)), rfl, ⟨by decide +kernel, by decide +kernel, by decide +kernel⟩⟩
set_option maxRecDepth 100000 in
theorem kX9_279 : gLkV RX9 279 7 M_X4_countInBag 2 := ⟨TX4, 11, rfl, (gIn (List.mem_of_getElem? (i := 1153) (by decide +kernel)) (by decide +kernel)), (gIn (List.mem_of_getElem? (i := 1154) (by decide +kernel)) (by decide +kernel)), (gIn (List.mem_of_getElem? (i := 1155) (by decide +kernel)) (by decide +kernel)), (gIn (List.mem_of_getElem? (i := 82) (by decide +kernel)) (by decide +kernel)), (gIn (List.mem_of_getElem? (i := 1156) (by decide +kernel)) (by decide +kernel)), rfl, ⟨by decide +kernel, by decide +kernel, by decide +kernel⟩⟩
set_option maxRecDepth 100000 in
theorem kX9_282 : gLkV RX9 282 7 M_X4_weightByLetters 1 := ⟨TX4, 11, rfl, (gIn (List.mem_of_getElem? (i := 1164) (by decide +kernel)) (by decide +kernel)), (gIn (List.mem_of_getElem? (i := 787) (by decide +kernel)) (by decide +kernel)), (gIn (List.mem_of_getElem? (i := 788) (by decide +kernel)) (by decide +kernel)), (gIn (List.mem_of_getElem? (i := 82) (by decide +kernel)) (by decide +kernel)), (gIn (List.mem_of_getElem? (i := 789) (by decide +kernel)) (by decide +kernel)), rfl, ⟨by decide +kernel, by decide +kernel, by decide +kernel⟩⟩
set_option maxRecDepth 100000 in
theorem kX9_285 : gLkV RX9 285 7 M_X4_weightByBags 1 := ⟨TX4, 11, rfl, (gIn (List.mem_of_getElem? (i := 1172) (by decide +kernel)) (by decide +kernel)), (gIn (List.mem_of_getElem? (i := 791) (by decide +kernel)) (by decide +kernel)), (gIn (List.mem_of_getElem? (i := 792) (by decide +kernel)) (by decide +kernel)), (gIn (List.mem_of_getElem? (i := 82) (by decide +kernel)) (by decide +kernel)), (gIn (List.mem_of_getElem? (i := 793) (by decide +kernel)) (by decide +kernel)), rfl, ⟨by decide +kernel, by decide +kernel, by decide +kernel⟩⟩
set_option maxRecDepth 100000 in
theorem fX9_288 : gFld RX9 288 7 2 (.array .int) true := ⟨_, "MailOffice$Office", TX4, 11, tyX4, rfl, by decide, inGX4, (gIn (List.mem_of_getElem? (i := 218) (by decide +kernel)) (by decide +kernel)), Or.inl rfl, tyX4_ok, nmX4, rfl, rfl⟩
set_option maxRecDepth 100000 in
theorem fX9_292 : gFld RX9 292 7 3 (.array .int) true := ⟨_, "MailOffice$Office", TX4, 11, tyX4, rfl, by decide, inGX4, (gIn (List.mem_of_getElem? (i := 220) (by decide +kernel)) (by decide +kernel)), Or.inl rfl, tyX4_ok, nmX4, rfl, rfl⟩
set_option maxRecDepth 100000 in
theorem kX9_295 : gLkV RX9 295 7 M_X4_hoursUntilDeparture 1 := ⟨TX4, 11, rfl, (gIn (List.mem_of_getElem? (i := 1194) (by decide +kernel)) (by decide +kernel)), (gIn (List.mem_of_getElem? (i := 1195) (by decide +kernel)) (by decide +kernel)), (gIn (List.mem_of_getElem? (i := 1196) (by decide +kernel)) (by decide +kernel)), (gIn (List.mem_of_getElem? (i := 82) (by decide +kernel)) (by decide +kernel)), (gIn (List.mem_of_getElem? (i := 1197) (by decide +kernel)) (by decide +kernel)), rfl, ⟨by decide +kernel, by decide +kernel, by decide +kernel⟩⟩
set_option maxRecDepth 100000 in
theorem kX9_298 : gLkV RX9 298 12 M_X9_deliverableLetter 1 := ⟨TX9, 9, rfl, (gIn (List.mem_of_getElem? (i := 1205) (by decide +kernel)) (by decide +kernel)), (gIn (List.mem_of_getElem? (i := 1207) (by decide +kernel)) (by decide +kernel)), (gIn (List.mem_of_getElem? (i := 23) (by decide +kernel)) (by decide +kernel)), (gIn (List.mem_of_getElem? (i := 81) (by decide +kernel)) (by decide +kernel)), (gIn (List.mem_of_getElem? (i := 1208) (by decide +kernel)) (by decide +kernel)), rfl, ⟨by decide +kernel, by decide +kernel, by decide +kernel⟩⟩
set_option maxRecDepth 100000 in
theorem kX9_301 : gLkV RX9 301 7 M_X4_heaviestBag 1 := ⟨TX4, 11, rfl, (gIn (List.mem_of_getElem? (i := 1231) (by decide +kernel)) (by decide +kernel)), (gIn (List.mem_of_getElem? (i := 1232) (by decide +kernel)) (by decide +kernel)), (gIn (List.mem_of_getElem? (i := 1233) (by decide +kernel)) (by decide +kernel)), (gIn (List.mem_of_getElem? (i := 82) (by decide +kernel)) (by decide +kernel)), (gIn (List.mem_of_getElem? (i := 1234) (by decide +kernel)) (by decide +kernel)), rfl, ⟨by decide +kernel, by decide +kernel, by decide +kernel⟩⟩
set_option maxRecDepth 100000 in
theorem kX9_306 : gLkV RX9 306 7 M_X4_rankOf 1 := ⟨TX4, 11, rfl, (gIn (List.mem_of_getElem? (i := 1243) (by decide +kernel)) (by decide +kernel)), (gIn (List.mem_of_getElem? (i := 1244) (by decide +kernel)) (by decide +kernel)), (gIn (List.mem_of_getElem? (i := 1245) (by decide +kernel)) (by decide +kernel)), (gIn (List.mem_of_getElem? (i := 82) (by decide +kernel)) (by decide +kernel)), (gIn (List.mem_of_getElem? (i := 1246) (by decide +kernel)) (by decide +kernel)), rfl, ⟨by decide +kernel, by decide +kernel, by decide +kernel⟩⟩
set_option maxRecDepth 100000 in
theorem kX9_315 : gLkV RX9 315 7 M_X4_countMissorted 0 := ⟨TX4, 11, rfl, (gIn (List.mem_of_getElem? (i := 727) (by decide +kernel)) (by decide +kernel)), (gIn (List.mem_of_getElem? (i := 728) (by decide +kernel)) (by decide +kernel)), (gIn (List.mem_of_getElem? (i := 729) (by decide +kernel)) (by decide +kernel)), (gIn (List.mem_of_getElem? (i := 82) (by decide +kernel)) (by decide +kernel)), (gIn (List.mem_of_getElem? (i := 730) (by decide +kernel)) (by decide +kernel)), rfl, ⟨by decide +kernel, by decide +kernel, by decide +kernel⟩⟩
set_option maxRecDepth 100000 in
theorem fX9_318 : gFld RX9 318 7 8 (.int) false := ⟨_, "MailOffice$Office", TX4, 11, tyX4, rfl, by decide, inGX4, (gIn (List.mem_of_getElem? (i := 229) (by decide +kernel)) (by decide +kernel)), Or.inl rfl, tyX4_ok, nmX4, rfl, rfl⟩
set_option maxRecDepth 100000 in
theorem fX9_321 : gFld RX9 321 7 9 (.int) false := ⟨_, "MailOffice$Office", TX4, 11, tyX4, rfl, by decide, inGX4, (gIn (List.mem_of_getElem? (i := 231) (by decide +kernel)) (by decide +kernel)), Or.inl rfl, tyX4_ok, nmX4, rfl, rfl⟩
set_option maxRecDepth 100000 in
theorem fX9_324 : gFld RX9 324 7 10 (.int) false := ⟨_, "MailOffice$Office", TX4, 11, tyX4, rfl, by decide, inGX4, (gIn (List.mem_of_getElem? (i := 233) (by decide +kernel)) (by decide +kernel)), Or.inl rfl, tyX4_ok, nmX4, rfl, rfl⟩
set_option maxRecDepth 100000 in
theorem kX9_332 : gLkV RX9 332 7 M_X4_totalWeight 0 := ⟨TX4, 11, rfl, (gIn (List.mem_of_getElem? (i := 1276) (by decide +kernel)) (by decide +kernel)), (gIn (List.mem_of_getElem? (i := 1277) (by decide +kernel)) (by decide +kernel)), (gIn (List.mem_of_getElem? (i := 1278) (by decide +kernel)) (by decide +kernel)), (gIn (List.mem_of_getElem? (i := 82) (by decide +kernel)) (by decide +kernel)), (gIn (List.mem_of_getElem? (i := 1279) (by decide +kernel)) (by decide +kernel)), rfl, ⟨by decide +kernel, by decide +kernel, by decide +kernel⟩⟩
set_option maxRecDepth 100000 in
theorem fX9_335 : gFld RX9 335 7 7 (.int) false := ⟨_, "MailOffice$Office", TX4, 11, tyX4, rfl, by decide, inGX4, (gIn (List.mem_of_getElem? (i := 227) (by decide +kernel)) (by decide +kernel)), Or.inl rfl, tyX4_ok, nmX4, rfl, rfl⟩
set_option maxRecDepth 100000 in
theorem kX9_340 : gLkV RX9 340 7 M_X4_routesAgreeWith 1 := ⟨TX4, 11, rfl, (gIn (List.mem_of_getElem? (i := 774) (by decide +kernel)) (by decide +kernel)), (gIn (List.mem_of_getElem? (i := 775) (by decide +kernel)) (by decide +kernel)), (gIn (List.mem_of_getElem? (i := 776) (by decide +kernel)) (by decide +kernel)), (gIn (List.mem_of_getElem? (i := 82) (by decide +kernel)) (by decide +kernel)), (gIn (List.mem_of_getElem? (i := 777) (by decide +kernel)) (by decide +kernel)), rfl, ⟨by decide +kernel, by decide +kernel, by decide +kernel⟩⟩
set_option maxRecDepth 100000 in
theorem kX9_344 : gLkV RX9 344 7 M_X4_bagsAreSound 0 := ⟨TX4, 11, rfl, (gIn (List.mem_of_getElem? (i := 782) (by decide +kernel)) (by decide +kernel)), (gIn (List.mem_of_getElem? (i := 783) (by decide +kernel)) (by decide +kernel)), (gIn (List.mem_of_getElem? (i := 784) (by decide +kernel)) (by decide +kernel)), (gIn (List.mem_of_getElem? (i := 82) (by decide +kernel)) (by decide +kernel)), (gIn (List.mem_of_getElem? (i := 785) (by decide +kernel)) (by decide +kernel)), rfl, ⟨by decide +kernel, by decide +kernel, by decide +kernel⟩⟩
set_option maxRecDepth 100000 in
theorem kX9_347 : gLkV RX9 347 7 M_X4_lettersAddUp 0 := ⟨TX4, 11, rfl, (gIn (List.mem_of_getElem? (i := 802) (by decide +kernel)) (by decide +kernel)), (gIn (List.mem_of_getElem? (i := 803) (by decide +kernel)) (by decide +kernel)), (gIn (List.mem_of_getElem? (i := 804) (by decide +kernel)) (by decide +kernel)), (gIn (List.mem_of_getElem? (i := 82) (by decide +kernel)) (by decide +kernel)), (gIn (List.mem_of_getElem? (i := 805) (by decide +kernel)) (by decide +kernel)), rfl, ⟨by decide +kernel, by decide +kernel, by decide +kernel⟩⟩
set_option maxRecDepth 100000 in
theorem kX9_350 : gLkV RX9 350 1 M_J4_setLength_d00df 1 := ⟨TJ4, 4, rfl, (gIn (List.mem_of_getElem? (i := 1295) (by decide +kernel)) (by decide +kernel)), (gIn (List.mem_of_getElem? (i := 1296) (by decide +kernel)) (by decide +kernel)), (gIn (List.mem_of_getElem? (i := 1297) (by decide +kernel)) (by decide +kernel)), (gIn (List.mem_of_getElem? (i := 90) (by decide +kernel)) (by decide +kernel)), (gIn (List.mem_of_getElem? (i := 1298) (by decide +kernel)) (by decide +kernel)), rfl, ⟨by decide +kernel, by decide +kernel, by decide +kernel⟩⟩
set_option maxRecDepth 100000 in
theorem kX9_353 : gLkV RX9 353 6 M_X3_writeTo 1 := ⟨TX3, 7, rfl, (gIn (List.mem_of_getElem? (i := 1537) (by decide +kernel)) (by decide +kernel)), (gIn (List.mem_of_getElem? (i := 1538) (by decide +kernel)) (by decide +kernel)), (gIn (List.mem_of_getElem? (i := 1539) (by decide +kernel)) (by decide +kernel)), (gIn (List.mem_of_getElem? (i := 96) (by decide +kernel)) (by decide +kernel)), (gIn (List.mem_of_getElem? (i := 1540) (by decide +kernel)) (by decide +kernel)), rfl, ⟨by decide +kernel, by decide +kernel, by decide +kernel⟩⟩
set_option maxRecDepth 100000 in
theorem kX9_357 : gLkV RX9 357 1 M_J4_length_8abf5 0 := ⟨TJ4, 4, rfl, (gIn (List.mem_of_getElem? (i := 1566) (by decide +kernel)) (by decide +kernel)), (gIn (List.mem_of_getElem? (i := 1461) (by decide +kernel)) (by decide +kernel)), (gIn (List.mem_of_getElem? (i := 2320) (by decide +kernel)) (by decide +kernel)), (gIn (List.mem_of_getElem? (i := 90) (by decide +kernel)) (by decide +kernel)), (gIn (List.mem_of_getElem? (i := 1462) (by decide +kernel)) (by decide +kernel)), rfl, ⟨by decide +kernel, by decide +kernel, by decide +kernel⟩⟩
set_option maxRecDepth 100000 in
theorem kX9_361 : gLkV RX9 361 1 M_J4_charAt_5068e 1 := ⟨TJ4, 4, rfl, (gIn (List.mem_of_getElem? (i := 1575) (by decide +kernel)) (by decide +kernel)), (gIn (List.mem_of_getElem? (i := 1576) (by decide +kernel)) (by decide +kernel)), (gIn (List.mem_of_getElem? (i := 1577) (by decide +kernel)) (by decide +kernel)), (gIn (List.mem_of_getElem? (i := 90) (by decide +kernel)) (by decide +kernel)), (gIn (List.mem_of_getElem? (i := 1578) (by decide +kernel)) (by decide +kernel)), rfl, ⟨by decide +kernel, by decide +kernel, by decide +kernel⟩⟩
set_option maxRecDepth 100000 in
theorem kX9_371 : gLkI RX9 371 M_X5_init 2 := ⟨(gIn (List.mem_of_getElem? (i := 1603) (by decide +kernel)) (by decide +kernel)), rfl, rfl, (gIn (List.mem_of_getElem? (i := 1604) (by decide +kernel)) (by decide +kernel)), (gIn (List.mem_of_getElem? (i := 114) (by decide +kernel)) (by decide +kernel)), (gIn (List.mem_of_getElem? (i := 1605) (by decide +kernel)) (by decide +kernel)), rfl, ⟨by decide +kernel, by decide +kernel, by decide +kernel⟩⟩
set_option maxRecDepth 100000 in
theorem kX9_374 : gLkV RX9 374 8 M_X5_readProgram 0 := ⟨TX5, 4, rfl, (gIn (List.mem_of_getElem? (i := 1624) (by decide +kernel)) (by decide +kernel)), (gIn (List.mem_of_getElem? (i := 1625) (by decide +kernel)) (by decide +kernel)), (gIn (List.mem_of_getElem? (i := 1626) (by decide +kernel)) (by decide +kernel)), (gIn (List.mem_of_getElem? (i := 114) (by decide +kernel)) (by decide +kernel)), (gIn (List.mem_of_getElem? (i := 1627) (by decide +kernel)) (by decide +kernel)), rfl, ⟨by decide +kernel, by decide +kernel, by decide +kernel⟩⟩
set_option maxRecDepth 100000 in
theorem fX9_377 : gFld RX9 377 8 2 (.int) false := ⟨_, "MailOffice$Parser", TX5, 4, tyX5, rfl, by decide, inGX5, (gIn (List.mem_of_getElem? (i := 1612) (by decide +kernel)) (by decide +kernel)), Or.inl rfl, tyX5_ok, nmX5, rfl, rfl⟩
set_option maxRecDepth 100000 in
theorem fX9_382 : gFld RX9 382 8 3 (.object "java/util/ArrayList") true := ⟨_, "MailOffice$Parser", TX5, 4, tyX5, rfl, by decide, inGX5, (gIn (List.mem_of_getElem? (i := 1614) (by decide +kernel)) (by decide +kernel)), Or.inl rfl, tyX5_ok, nmX5, rfl, rfl⟩
set_option maxRecDepth 100000 in
theorem kX9_387 : gLkV RX9 387 5 M_X1_executeOn 1 := ⟨TX1, 4, rfl, (gIn (List.mem_of_getElem? (i := 1703) (by decide +kernel)) (by decide +kernel)), (gIn (List.mem_of_getElem? (i := 1704) (by decide +kernel)) (by decide +kernel)), (gIn (List.mem_of_getElem? (i := 1705) (by decide +kernel)) (by decide +kernel)), (gIn (List.mem_of_getElem? (i := 117) (by decide +kernel)) (by decide +kernel)), (gIn (List.mem_of_getElem? (i := 1706) (by decide +kernel)) (by decide +kernel)), rfl, ⟨by decide +kernel, by decide +kernel, by decide +kernel⟩⟩
set_option maxRecDepth 100000 in
theorem kX9_401 : gLkV RX9 401 4 M_Jx4a65c_clear_da8c8 0 := ⟨TJx4a65c, 3, rfl, (gIn (List.mem_of_getElem? (i := 1758) (by decide +kernel)) (by decide +kernel)), (gIn (List.mem_of_getElem? (i := 1759) (by decide +kernel)) (by decide +kernel)), (gIn (List.mem_of_getElem? (i := 1760) (by decide +kernel)) (by decide +kernel)), (gIn (List.mem_of_getElem? (i := 85) (by decide +kernel)) (by decide +kernel)), (gIn (List.mem_of_getElem? (i := 1761) (by decide +kernel)) (by decide +kernel)), rfl, ⟨by decide +kernel, by decide +kernel, by decide +kernel⟩⟩
set_option maxRecDepth 100000 in
theorem kX9_404 : gLkS RX9 404 M_X9_powerOfTen 1 := ⟨(gIn (List.mem_of_getElem? (i := 866) (by decide +kernel)) (by decide +kernel)), (gIn (List.mem_of_getElem? (i := 174) (by decide +kernel)) (by decide +kernel)), (gIn (List.mem_of_getElem? (i := 81) (by decide +kernel)) (by decide +kernel)), (gIn (List.mem_of_getElem? (i := 175) (by decide +kernel)) (by decide +kernel)), rfl, ⟨by decide +kernel, by decide +kernel, by decide +kernel⟩⟩
set_option maxRecDepth 100000 in
theorem fX10_9 : gFld RX10 9 13 0 (.array .int) true := ⟨_, "MailOfficeModel", TX10, 20, tyX10, rfl, by decide, inGX10, (gIn (List.mem_of_getElem? (i := 1777) (by decide +kernel)) (by decide +kernel)), Or.inl rfl, tyX10_ok, nmX10, rfl, rfl⟩
set_option maxRecDepth 100000 in
theorem fX10_13 : gFld RX10 13 13 1 (.array .int) true := ⟨_, "MailOfficeModel", TX10, 20, tyX10, rfl, by decide, inGX10, (gIn (List.mem_of_getElem? (i := 1778) (by decide +kernel)) (by decide +kernel)), Or.inl rfl, tyX10_ok, nmX10, rfl, rfl⟩
set_option maxRecDepth 100000 in
theorem fX10_16 : gFld RX10 16 13 2 (.array .int) true := ⟨_, "MailOfficeModel", TX10, 20, tyX10, rfl, by decide, inGX10, (gIn (List.mem_of_getElem? (i := 1779) (by decide +kernel)) (by decide +kernel)), Or.inl rfl, tyX10_ok, nmX10, rfl, rfl⟩
set_option maxRecDepth 100000 in
theorem fX10_19 : gFld RX10 19 13 3 (.array .int) true := ⟨_, "MailOfficeModel", TX10, 20, tyX10, rfl, by decide, inGX10, (gIn (List.mem_of_getElem? (i := 1780) (by decide +kernel)) (by decide +kernel)), Or.inl rfl, tyX10_ok, nmX10, rfl, rfl⟩
set_option maxRecDepth 100000 in
theorem fX10_22 : gFld RX10 22 13 4 (.array .int) true := ⟨_, "MailOfficeModel", TX10, 20, tyX10, rfl, by decide, inGX10, (gIn (List.mem_of_getElem? (i := 1781) (by decide +kernel)) (by decide +kernel)), Or.inl rfl, tyX10_ok, nmX10, rfl, rfl⟩
set_option maxRecDepth 100000 in
theorem fX10_25 : gFld RX10 25 13 7 (.int) false := ⟨_, "MailOfficeModel", TX10, 20, tyX10, rfl, by decide, inGX10, (gIn (List.mem_of_getElem? (i := 1784) (by decide +kernel)) (by decide +kernel)), Or.inl rfl, tyX10_ok, nmX10, rfl, rfl⟩
set_option maxRecDepth 100000 in
theorem fX10_29 : gFld RX10 29 13 8 (.int) false := ⟨_, "MailOfficeModel", TX10, 20, tyX10, rfl, by decide, inGX10, (gIn (List.mem_of_getElem? (i := 1785) (by decide +kernel)) (by decide +kernel)), Or.inl rfl, tyX10_ok, nmX10, rfl, rfl⟩
set_option maxRecDepth 100000 in
theorem fX10_32 : gFld RX10 32 13 9 (.array .int) true := ⟨_, "MailOfficeModel", TX10, 20, tyX10, rfl, by decide, inGX10, (gIn (List.mem_of_getElem? (i := 1786) (by decide +kernel)) (by decide +kernel)), Or.inl rfl, tyX10_ok, nmX10, rfl, rfl⟩
set_option maxRecDepth 100000 in
theorem fX10_35 : gFld RX10 35 13 11 (.array .int) true := ⟨_, "MailOfficeModel", TX10, 20, tyX10, rfl, by decide, inGX10, (gIn (List.mem_of_getElem? (i := 1788) (by decide +kernel)) (by decide +kernel)), Or.inl rfl, tyX10_ok, nmX10, rfl, rfl⟩
set_option maxRecDepth 100000 in
theorem fX10_38 : gFld RX10 38 13 19 (.array .int) true := ⟨_, "MailOfficeModel", TX10, 20, tyX10, rfl, by decide, inGX10, (gIn (List.mem_of_getElem? (i := 1796) (by decide +kernel)) (by decide +kernel)), Or.inl rfl, tyX10_ok, nmX10, rfl, rfl⟩
set_option maxRecDepth 100000 in
theorem kX10_41 : gLkS RX10 41 M_X10_routeAt 1 := ⟨(gIn (List.mem_of_getElem? (i := 1768) (by decide +kernel)) (by decide +kernel)), (gIn (List.mem_of_getElem? (i := 1769) (by decide +kernel)) (by decide +kernel)), (gIn (List.mem_of_getElem? (i := 93) (by decide +kernel)) (by decide +kernel)), (gIn (List.mem_of_getElem? (i := 1770) (by decide +kernel)) (by decide +kernel)), rfl, ⟨by decide +kernel, by decide +kernel, by decide +kernel⟩⟩
set_option maxRecDepth 100000 in
theorem fX10_45 : gFld RX10 45 13 13 (.int) false := ⟨_, "MailOfficeModel", TX10, 20, tyX10, rfl, by decide, inGX10, (gIn (List.mem_of_getElem? (i := 1790) (by decide +kernel)) (by decide +kernel)), Or.inl rfl, tyX10_ok, nmX10, rfl, rfl⟩
set_option maxRecDepth 100000 in
theorem kX10_48 : gLkV RX10 48 13 M_X10_holds 3 := ⟨TX10, 20, rfl, (gIn (List.mem_of_getElem? (i := 1854) (by decide +kernel)) (by decide +kernel)), (gIn (List.mem_of_getElem? (i := 1856) (by decide +kernel)) (by decide +kernel)), (gIn (List.mem_of_getElem? (i := 34) (by decide +kernel)) (by decide +kernel)), (gIn (List.mem_of_getElem? (i := 93) (by decide +kernel)) (by decide +kernel)), (gIn (List.mem_of_getElem? (i := 1857) (by decide +kernel)) (by decide +kernel)), rfl, ⟨by decide +kernel, by decide +kernel, by decide +kernel⟩⟩
set_option maxRecDepth 100000 in
theorem kX10_52 : gLkS RX10 52 M_X10_copies 4 := ⟨(gIn (List.mem_of_getElem? (i := 1858) (by decide +kernel)) (by decide +kernel)), (gIn (List.mem_of_getElem? (i := 1859) (by decide +kernel)) (by decide +kernel)), (gIn (List.mem_of_getElem? (i := 93) (by decide +kernel)) (by decide +kernel)), (gIn (List.mem_of_getElem? (i := 1860) (by decide +kernel)) (by decide +kernel)), rfl, ⟨by decide +kernel, by decide +kernel, by decide +kernel⟩⟩
set_option maxRecDepth 100000 in
theorem fX10_56 : gFld RX10 56 13 6 (.int) false := ⟨_, "MailOfficeModel", TX10, 20, tyX10, rfl, by decide, inGX10, (gIn (List.mem_of_getElem? (i := 1783) (by decide +kernel)) (by decide +kernel)), Or.inl rfl, tyX10_ok, nmX10, rfl, rfl⟩
set_option maxRecDepth 100000 in
theorem kX10_59 : gLkV RX10 59 13 M_X10_remembers 0 := ⟨TX10, 20, rfl, (gIn (List.mem_of_getElem? (i := 1891) (by decide +kernel)) (by decide +kernel)), (gIn (List.mem_of_getElem? (i := 1893) (by decide +kernel)) (by decide +kernel)), (gIn (List.mem_of_getElem? (i := 38) (by decide +kernel)) (by decide +kernel)), (gIn (List.mem_of_getElem? (i := 93) (by decide +kernel)) (by decide +kernel)), (gIn (List.mem_of_getElem? (i := 1894) (by decide +kernel)) (by decide +kernel)), rfl, ⟨by decide +kernel, by decide +kernel, by decide +kernel⟩⟩
set_option maxRecDepth 100000 in
theorem kX10_62 : gLkV RX10 62 13 M_X10_goes 1 := ⟨TX10, 20, rfl, (gIn (List.mem_of_getElem? (i := 1850) (by decide +kernel)) (by decide +kernel)), (gIn (List.mem_of_getElem? (i := 1852) (by decide +kernel)) (by decide +kernel)), (gIn (List.mem_of_getElem? (i := 33) (by decide +kernel)) (by decide +kernel)), (gIn (List.mem_of_getElem? (i := 93) (by decide +kernel)) (by decide +kernel)), (gIn (List.mem_of_getElem? (i := 1853) (by decide +kernel)) (by decide +kernel)), rfl, ⟨by decide +kernel, by decide +kernel, by decide +kernel⟩⟩
set_option maxRecDepth 100000 in
theorem fX10_66 : gFld RX10 66 13 5 (.boolean) false := ⟨_, "MailOfficeModel", TX10, 20, tyX10, rfl, by decide, inGX10, (gIn (List.mem_of_getElem? (i := 1782) (by decide +kernel)) (by decide +kernel)), Or.inl rfl, tyX10_ok, nmX10, rfl, rfl⟩
set_option maxRecDepth 100000 in
theorem kX10_70 : gLkS RX10 70 M_X10_isIn 3 := ⟨(gIn (List.mem_of_getElem? (i := 1774) (by decide +kernel)) (by decide +kernel)), (gIn (List.mem_of_getElem? (i := 1775) (by decide +kernel)) (by decide +kernel)), (gIn (List.mem_of_getElem? (i := 93) (by decide +kernel)) (by decide +kernel)), (gIn (List.mem_of_getElem? (i := 1776) (by decide +kernel)) (by decide +kernel)), rfl, ⟨by decide +kernel, by decide +kernel, by decide +kernel⟩⟩
set_option maxRecDepth 100000 in
theorem kX10_74 : gLkS RX10 74 M_X10_isRoute 1 := ⟨(gIn (List.mem_of_getElem? (i := 1771) (by decide +kernel)) (by decide +kernel)), (gIn (List.mem_of_getElem? (i := 1772) (by decide +kernel)) (by decide +kernel)), (gIn (List.mem_of_getElem? (i := 93) (by decide +kernel)) (by decide +kernel)), (gIn (List.mem_of_getElem? (i := 1773) (by decide +kernel)) (by decide +kernel)), rfl, ⟨by decide +kernel, by decide +kernel, by decide +kernel⟩⟩
set_option maxRecDepth 100000 in
theorem kX10_78 : gLkS RX10 78 M_X10_tens 1 := ⟨(gIn (List.mem_of_getElem? (i := 1914) (by decide +kernel)) (by decide +kernel)), (gIn (List.mem_of_getElem? (i := 1915) (by decide +kernel)) (by decide +kernel)), (gIn (List.mem_of_getElem? (i := 93) (by decide +kernel)) (by decide +kernel)), (gIn (List.mem_of_getElem? (i := 1916) (by decide +kernel)) (by decide +kernel)), rfl, ⟨by decide +kernel, by decide +kernel, by decide +kernel⟩⟩
set_option maxRecDepth 100000 in
theorem kX10_81 : gLkV RX10 81 13 M_X10_ofPrefix 2 := ⟨TX10, 20, rfl, (gIn (List.mem_of_getElem? (i := 1907) (by decide +kernel)) (by decide +kernel)), (gIn (List.mem_of_getElem? (i := 1909) (by decide +kernel)) (by decide +kernel)), (gIn (List.mem_of_getElem? (i := 41) (by decide +kernel)) (by decide +kernel)), (gIn (List.mem_of_getElem? (i := 93) (by decide +kernel)) (by decide +kernel)), (gIn (List.mem_of_getElem? (i := 1910) (by decide +kernel)) (by decide +kernel)), rfl, ⟨by decide +kernel, by decide +kernel, by decide +kernel⟩⟩
set_option maxRecDepth 100000 in
theorem kX10_85 : gLkS RX10 85 M_J9_max_7cf53 2 := ⟨(gIn (List.mem_of_getElem? (i := 1945) (by decide +kernel)) (by decide +kernel)), (gIn (List.mem_of_getElem? (i := 432) (by decide +kernel)) (by decide +kernel)), (gIn (List.mem_of_getElem? (i := 98) (by decide +kernel)) (by decide +kernel)), (gIn (List.mem_of_getElem? (i := 433) (by decide +kernel)) (by decide +kernel)), rfl, ⟨by decide +kernel, by decide +kernel, by decide +kernel⟩⟩
set_option maxRecDepth 100000 in
theorem kX10_90 : gLkV RX10 90 13 M_X10_matching 3 := ⟨TX10, 20, rfl, (gIn (List.mem_of_getElem? (i := 1941) (by decide +kernel)) (by decide +kernel)), (gIn (List.mem_of_getElem? (i := 1943) (by decide +kernel)) (by decide +kernel)), (gIn (List.mem_of_getElem? (i := 46) (by decide +kernel)) (by decide +kernel)), (gIn (List.mem_of_getElem? (i := 93) (by decide +kernel)) (by decide +kernel)), (gIn (List.mem_of_getElem? (i := 1944) (by decide +kernel)) (by decide +kernel)), rfl, ⟨by decide +kernel, by decide +kernel, by decide +kernel⟩⟩
set_option maxRecDepth 100000 in
theorem kX10_94 : gLkS RX10 94 M_X10_letterAt 1 := ⟨(gIn (List.mem_of_getElem? (i := 1884) (by decide +kernel)) (by decide +kernel)), (gIn (List.mem_of_getElem? (i := 1885) (by decide +kernel)) (by decide +kernel)), (gIn (List.mem_of_getElem? (i := 93) (by decide +kernel)) (by decide +kernel)), (gIn (List.mem_of_getElem? (i := 1886) (by decide +kernel)) (by decide +kernel)), rfl, ⟨by decide +kernel, by decide +kernel, by decide +kernel⟩⟩
set_option maxRecDepth 100000 in
theorem kX10_97 : gLkV RX10 97 13 M_X10_placeOf 1 := ⟨TX10, 20, rfl, (gIn (List.mem_of_getElem? (i := 1933) (by decide +kernel)) (by decide +kernel)), (gIn (List.mem_of_getElem? (i := 1935) (by decide +kernel)) (by decide +kernel)), (gIn (List.mem_of_getElem? (i := 44) (by decide +kernel)) (by decide +kernel)), (gIn (List.mem_of_getElem? (i := 93) (by decide +kernel)) (by decide +kernel)), (gIn (List.mem_of_getElem? (i := 1936) (by decide +kernel)) (by decide +kernel)), rfl, ⟨by decide +kernel, by decide +kernel, by decide +kernel⟩⟩
set_option maxRecDepth 100000 in
theorem kX10_100 : gLkV RX10 100 13 M_X10_weightIn 2 := ⟨TX10, 20, rfl, (gIn (List.mem_of_getElem? (i := 1954) (by decide +kernel)) (by decide +kernel)), (gIn (List.mem_of_getElem? (i := 1956) (by decide +kernel)) (by decide +kernel)), (gIn (List.mem_of_getElem? (i := 49) (by decide +kernel)) (by decide +kernel)), (gIn (List.mem_of_getElem? (i := 93) (by decide +kernel)) (by decide +kernel)), (gIn (List.mem_of_getElem? (i := 1957) (by decide +kernel)) (by decide +kernel)), rfl, ⟨by decide +kernel, by decide +kernel, by decide +kernel⟩⟩
set_option maxRecDepth 100000 in
theorem kX10_103 : gLkV RX10 103 13 M_X10_bagFor 2 := ⟨TX10, 20, rfl, (gIn (List.mem_of_getElem? (i := 1950) (by decide +kernel)) (by decide +kernel)), (gIn (List.mem_of_getElem? (i := 1952) (by decide +kernel)) (by decide +kernel)), (gIn (List.mem_of_getElem? (i := 48) (by decide +kernel)) (by decide +kernel)), (gIn (List.mem_of_getElem? (i := 93) (by decide +kernel)) (by decide +kernel)), (gIn (List.mem_of_getElem? (i := 1953) (by decide +kernel)) (by decide +kernel)), rfl, ⟨by decide +kernel, by decide +kernel, by decide +kernel⟩⟩
set_option maxRecDepth 100000 in
theorem kX10_106 : gLkS RX10 106 M_X10_isCode 1 := ⟨(gIn (List.mem_of_getElem? (i := 1881) (by decide +kernel)) (by decide +kernel)), (gIn (List.mem_of_getElem? (i := 1882) (by decide +kernel)) (by decide +kernel)), (gIn (List.mem_of_getElem? (i := 93) (by decide +kernel)) (by decide +kernel)), (gIn (List.mem_of_getElem? (i := 1883) (by decide +kernel)) (by decide +kernel)), rfl, ⟨by decide +kernel, by decide +kernel, by decide +kernel⟩⟩
set_option maxRecDepth 100000 in
theorem kX10_109 : gLkV RX10 109 13 M_X10_begins 0 := ⟨TX10, 20, rfl, (gIn (List.mem_of_getElem? (i := 1873) (by decide +kernel)) (by decide +kernel)), (gIn (List.mem_of_getElem? (i := 1875) (by decide +kernel)) (by decide +kernel)), (gIn (List.mem_of_getElem? (i := 35) (by decide +kernel)) (by decide +kernel)), (gIn (List.mem_of_getElem? (i := 93) (by decide +kernel)) (by decide +kernel)), (gIn (List.mem_of_getElem? (i := 1876) (by decide +kernel)) (by decide +kernel)), rfl, ⟨by decide +kernel, by decide +kernel, by decide +kernel⟩⟩
set_option maxRecDepth 100000 in
theorem kX10_112 : gLkV RX10 112 13 M_X10_accepts 3 := ⟨TX10, 20, rfl, (gIn (List.mem_of_getElem? (i := 1877) (by decide +kernel)) (by decide +kernel)), (gIn (List.mem_of_getElem? (i := 1879) (by decide +kernel)) (by decide +kernel)), (gIn (List.mem_of_getElem? (i := 36) (by decide +kernel)) (by decide +kernel)), (gIn (List.mem_of_getElem? (i := 93) (by decide +kernel)) (by decide +kernel)), (gIn (List.mem_of_getElem? (i := 1880) (by decide +kernel)) (by decide +kernel)), rfl, ⟨by decide +kernel, by decide +kernel, by decide +kernel⟩⟩
set_option maxRecDepth 100000 in
theorem kX10_115 : gLkV RX10 115 13 M_X10_ends 1 := ⟨TX10, 20, rfl, (gIn (List.mem_of_getElem? (i := 1887) (by decide +kernel)) (by decide +kernel)), (gIn (List.mem_of_getElem? (i := 1889) (by decide +kernel)) (by decide +kernel)), (gIn (List.mem_of_getElem? (i := 37) (by decide +kernel)) (by decide +kernel)), (gIn (List.mem_of_getElem? (i := 93) (by decide +kernel)) (by decide +kernel)), (gIn (List.mem_of_getElem? (i := 1890) (by decide +kernel)) (by decide +kernel)), rfl, ⟨by decide +kernel, by decide +kernel, by decide +kernel⟩⟩
set_option maxRecDepth 100000 in
theorem kX10_118 : gLkV RX10 118 13 M_X10_find 2 := ⟨TX10, 20, rfl, (gIn (List.mem_of_getElem? (i := 1903) (by decide +kernel)) (by decide +kernel)), (gIn (List.mem_of_getElem? (i := 1905) (by decide +kernel)) (by decide +kernel)), (gIn (List.mem_of_getElem? (i := 40) (by decide +kernel)) (by decide +kernel)), (gIn (List.mem_of_getElem? (i := 93) (by decide +kernel)) (by decide +kernel)), (gIn (List.mem_of_getElem? (i := 1906) (by decide +kernel)) (by decide +kernel)), rfl, ⟨by decide +kernel, by decide +kernel, by decide +kernel⟩⟩
set_option maxRecDepth 100000 in
theorem kX10_121 : gLkS RX10 121 M_X10_isPrefix 2 := ⟨(gIn (List.mem_of_getElem? (i := 1911) (by decide +kernel)) (by decide +kernel)), (gIn (List.mem_of_getElem? (i := 1912) (by decide +kernel)) (by decide +kernel)), (gIn (List.mem_of_getElem? (i := 93) (by decide +kernel)) (by decide +kernel)), (gIn (List.mem_of_getElem? (i := 1913) (by decide +kernel)) (by decide +kernel)), rfl, ⟨by decide +kernel, by decide +kernel, by decide +kernel⟩⟩
set_option maxRecDepth 100000 in
theorem kX10_125 : gLkV RX10 125 13 M_X10_adds 3 := ⟨TX10, 20, rfl, (gIn (List.mem_of_getElem? (i := 1899) (by decide +kernel)) (by decide +kernel)), (gIn (List.mem_of_getElem? (i := 1901) (by decide +kernel)) (by decide +kernel)), (gIn (List.mem_of_getElem? (i := 39) (by decide +kernel)) (by decide +kernel)), (gIn (List.mem_of_getElem? (i := 93) (by decide +kernel)) (by decide +kernel)), (gIn (List.mem_of_getElem? (i := 1902) (by decide +kernel)) (by decide +kernel)), rfl, ⟨by decide +kernel, by decide +kernel, by decide +kernel⟩⟩
set_option maxRecDepth 100000 in
theorem kX10_128 : gLkV RX10 128 13 M_X10_removes 2 := ⟨TX10, 20, rfl, (gIn (List.mem_of_getElem? (i := 1921) (by decide +kernel)) (by decide +kernel)), (gIn (List.mem_of_getElem? (i := 1923) (by decide +kernel)) (by decide +kernel)), (gIn (List.mem_of_getElem? (i := 42) (by decide +kernel)) (by decide +kernel)), (gIn (List.mem_of_getElem? (i := 93) (by decide +kernel)) (by decide +kernel)), (gIn (List.mem_of_getElem? (i := 1924) (by decide +kernel)) (by decide +kernel)), rfl, ⟨by decide +kernel, by decide +kernel, by decide +kernel⟩⟩
set_option maxRecDepth 100000 in
theorem kX10_131 : gLkV RX10 131 13 M_X10_routed 1 := ⟨TX10, 20, rfl, (gIn (List.mem_of_getElem? (i := 1937) (by decide +kernel)) (by decide +kernel)), (gIn (List.mem_of_getElem? (i := 1939) (by decide +kernel)) (by decide +kernel)), (gIn (List.mem_of_getElem? (i := 45) (by decide +kernel)) (by decide +kernel)), (gIn (List.mem_of_getElem? (i := 93) (by decide +kernel)) (by decide +kernel)), (gIn (List.mem_of_getElem? (i := 1940) (by decide +kernel)) (by decide +kernel)), rfl, ⟨by decide +kernel, by decide +kernel, by decide +kernel⟩⟩
set_option maxRecDepth 100000 in
theorem kX10_134 : gLkV RX10 134 13 M_X10_canGo 2 := ⟨TX10, 20, rfl, (gIn (List.mem_of_getElem? (i := 1946) (by decide +kernel)) (by decide +kernel)), (gIn (List.mem_of_getElem? (i := 1948) (by decide +kernel)) (by decide +kernel)), (gIn (List.mem_of_getElem? (i := 47) (by decide +kernel)) (by decide +kernel)), (gIn (List.mem_of_getElem? (i := 93) (by decide +kernel)) (by decide +kernel)), (gIn (List.mem_of_getElem? (i := 1949) (by decide +kernel)) (by decide +kernel)), rfl, ⟨by decide +kernel, by decide +kernel, by decide +kernel⟩⟩
set_option maxRecDepth 100000 in
theorem kX10_137 : gLkV RX10 137 13 M_X10_goesInto 2 := ⟨TX10, 20, rfl, (gIn (List.mem_of_getElem? (i := 1958) (by decide +kernel)) (by decide +kernel)), (gIn (List.mem_of_getElem? (i := 1960) (by decide +kernel)) (by decide +kernel)), (gIn (List.mem_of_getElem? (i := 50) (by decide +kernel)) (by decide +kernel)), (gIn (List.mem_of_getElem? (i := 93) (by decide +kernel)) (by decide +kernel)), (gIn (List.mem_of_getElem? (i := 1961) (by decide +kernel)) (by decide +kernel)), rfl, ⟨by decide +kernel, by decide +kernel, by decide +kernel⟩⟩
set_option maxRecDepth 100000 in
theorem kX10_140 : gLkV RX10 140 13 M_X10_sorts 1 := ⟨TX10, 20, rfl, (gIn (List.mem_of_getElem? (i := 1929) (by decide +kernel)) (by decide +kernel)), (gIn (List.mem_of_getElem? (i := 1931) (by decide +kernel)) (by decide +kernel)), (gIn (List.mem_of_getElem? (i := 43) (by decide +kernel)) (by decide +kernel)), (gIn (List.mem_of_getElem? (i := 93) (by decide +kernel)) (by decide +kernel)), (gIn (List.mem_of_getElem? (i := 1932) (by decide +kernel)) (by decide +kernel)), rfl, ⟨by decide +kernel, by decide +kernel, by decide +kernel⟩⟩
set_option maxRecDepth 100000 in
theorem kX10_143 : gLkV RX10 143 13 M_X10_sortsKind 1 := ⟨TX10, 20, rfl, (gIn (List.mem_of_getElem? (i := 1970) (by decide +kernel)) (by decide +kernel)), (gIn (List.mem_of_getElem? (i := 1972) (by decide +kernel)) (by decide +kernel)), (gIn (List.mem_of_getElem? (i := 52) (by decide +kernel)) (by decide +kernel)), (gIn (List.mem_of_getElem? (i := 93) (by decide +kernel)) (by decide +kernel)), (gIn (List.mem_of_getElem? (i := 1973) (by decide +kernel)) (by decide +kernel)), rfl, ⟨by decide +kernel, by decide +kernel, by decide +kernel⟩⟩
set_option maxRecDepth 100000 in
theorem kX10_146 : gLkV RX10 146 13 M_X10_sortsAll 0 := ⟨TX10, 20, rfl, (gIn (List.mem_of_getElem? (i := 1966) (by decide +kernel)) (by decide +kernel)), (gIn (List.mem_of_getElem? (i := 1968) (by decide +kernel)) (by decide +kernel)), (gIn (List.mem_of_getElem? (i := 51) (by decide +kernel)) (by decide +kernel)), (gIn (List.mem_of_getElem? (i := 93) (by decide +kernel)) (by decide +kernel)), (gIn (List.mem_of_getElem? (i := 1969) (by decide +kernel)) (by decide +kernel)), rfl, ⟨by decide +kernel, by decide +kernel, by decide +kernel⟩⟩
set_option maxRecDepth 100000 in
theorem kX10_150 : gLkV RX10 150 13 M_X10_places 2 := ⟨TX10, 20, rfl, (gIn (List.mem_of_getElem? (i := 1978) (by decide +kernel)) (by decide +kernel)), (gIn (List.mem_of_getElem? (i := 1980) (by decide +kernel)) (by decide +kernel)), (gIn (List.mem_of_getElem? (i := 53) (by decide +kernel)) (by decide +kernel)), (gIn (List.mem_of_getElem? (i := 93) (by decide +kernel)) (by decide +kernel)), (gIn (List.mem_of_getElem? (i := 1981) (by decide +kernel)) (by decide +kernel)), rfl, ⟨by decide +kernel, by decide +kernel, by decide +kernel⟩⟩
set_option maxRecDepth 100000 in
theorem kX10_153 : gLkV RX10 153 13 M_X10_of 2 := ⟨TX10, 20, rfl, (gIn (List.mem_of_getElem? (i := 1990) (by decide +kernel)) (by decide +kernel)), (gIn (List.mem_of_getElem? (i := 1992) (by decide +kernel)) (by decide +kernel)), (gIn (List.mem_of_getElem? (i := 55) (by decide +kernel)) (by decide +kernel)), (gIn (List.mem_of_getElem? (i := 93) (by decide +kernel)) (by decide +kernel)), (gIn (List.mem_of_getElem? (i := 1993) (by decide +kernel)) (by decide +kernel)), rfl, ⟨by decide +kernel, by decide +kernel, by decide +kernel⟩⟩
set_option maxRecDepth 100000 in
theorem kX10_156 : gLkV RX10 156 13 M_X10_isHere 1 := ⟨TX10, 20, rfl, (gIn (List.mem_of_getElem? (i := 1994) (by decide +kernel)) (by decide +kernel)), (gIn (List.mem_of_getElem? (i := 1996) (by decide +kernel)) (by decide +kernel)), (gIn (List.mem_of_getElem? (i := 56) (by decide +kernel)) (by decide +kernel)), (gIn (List.mem_of_getElem? (i := 93) (by decide +kernel)) (by decide +kernel)), (gIn (List.mem_of_getElem? (i := 1997) (by decide +kernel)) (by decide +kernel)), rfl, ⟨by decide +kernel, by decide +kernel, by decide +kernel⟩⟩
set_option maxRecDepth 100000 in
theorem kX10_159 : gLkV RX10 159 13 M_X10_pulls 1 := ⟨TX10, 20, rfl, (gIn (List.mem_of_getElem? (i := 1986) (by decide +kernel)) (by decide +kernel)), (gIn (List.mem_of_getElem? (i := 1988) (by decide +kernel)) (by decide +kernel)), (gIn (List.mem_of_getElem? (i := 54) (by decide +kernel)) (by decide +kernel)), (gIn (List.mem_of_getElem? (i := 93) (by decide +kernel)) (by decide +kernel)), (gIn (List.mem_of_getElem? (i := 1989) (by decide +kernel)) (by decide +kernel)), rfl, ⟨by decide +kernel, by decide +kernel, by decide +kernel⟩⟩
set_option maxRecDepth 100000 in
theorem kX10_162 : gLkV RX10 162 13 M_X10_sets 4 := ⟨TX10, 20, rfl, (gIn (List.mem_of_getElem? (i := 2002) (by decide +kernel)) (by decide +kernel)), (gIn (List.mem_of_getElem? (i := 2004) (by decide +kernel)) (by decide +kernel)), (gIn (List.mem_of_getElem? (i := 57) (by decide +kernel)) (by decide +kernel)), (gIn (List.mem_of_getElem? (i := 93) (by decide +kernel)) (by decide +kernel)), (gIn (List.mem_of_getElem? (i := 2005) (by decide +kernel)) (by decide +kernel)), rfl, ⟨by decide +kernel, by decide +kernel, by decide +kernel⟩⟩
set_option maxRecDepth 100000 in
theorem kX10_166 : gLkV RX10 166 13 M_X10_isDead 1 := ⟨TX10, 20, rfl, (gIn (List.mem_of_getElem? (i := 2022) (by decide +kernel)) (by decide +kernel)), (gIn (List.mem_of_getElem? (i := 2024) (by decide +kernel)) (by decide +kernel)), (gIn (List.mem_of_getElem? (i := 60) (by decide +kernel)) (by decide +kernel)), (gIn (List.mem_of_getElem? (i := 93) (by decide +kernel)) (by decide +kernel)), (gIn (List.mem_of_getElem? (i := 2025) (by decide +kernel)) (by decide +kernel)), rfl, ⟨by decide +kernel, by decide +kernel, by decide +kernel⟩⟩
set_option maxRecDepth 100000 in
theorem kX10_169 : gLkV RX10 169 13 M_X10_leaves 1 := ⟨TX10, 20, rfl, (gIn (List.mem_of_getElem? (i := 2026) (by decide +kernel)) (by decide +kernel)), (gIn (List.mem_of_getElem? (i := 2028) (by decide +kernel)) (by decide +kernel)), (gIn (List.mem_of_getElem? (i := 61) (by decide +kernel)) (by decide +kernel)), (gIn (List.mem_of_getElem? (i := 93) (by decide +kernel)) (by decide +kernel)), (gIn (List.mem_of_getElem? (i := 2029) (by decide +kernel)) (by decide +kernel)), rfl, ⟨by decide +kernel, by decide +kernel, by decide +kernel⟩⟩
set_option maxRecDepth 100000 in
theorem kX10_173 : gLkV RX10 173 13 M_X10_departs 1 := ⟨TX10, 20, rfl, (gIn (List.mem_of_getElem? (i := 2018) (by decide +kernel)) (by decide +kernel)), (gIn (List.mem_of_getElem? (i := 2020) (by decide +kernel)) (by decide +kernel)), (gIn (List.mem_of_getElem? (i := 59) (by decide +kernel)) (by decide +kernel)), (gIn (List.mem_of_getElem? (i := 93) (by decide +kernel)) (by decide +kernel)), (gIn (List.mem_of_getElem? (i := 2021) (by decide +kernel)) (by decide +kernel)), rfl, ⟨by decide +kernel, by decide +kernel, by decide +kernel⟩⟩
set_option maxRecDepth 100000 in
theorem kX10_176 : gLkV RX10 176 13 M_X10_waits 1 := ⟨TX10, 20, rfl, (gIn (List.mem_of_getElem? (i := 2014) (by decide +kernel)) (by decide +kernel)), (gIn (List.mem_of_getElem? (i := 2016) (by decide +kernel)) (by decide +kernel)), (gIn (List.mem_of_getElem? (i := 58) (by decide +kernel)) (by decide +kernel)), (gIn (List.mem_of_getElem? (i := 93) (by decide +kernel)) (by decide +kernel)), (gIn (List.mem_of_getElem? (i := 2017) (by decide +kernel)) (by decide +kernel)), rfl, ⟨by decide +kernel, by decide +kernel, by decide +kernel⟩⟩
set_option maxRecDepth 100000 in
theorem kX10_179 : gLkV RX10 179 13 M_X10_asks 2 := ⟨TX10, 20, rfl, (gIn (List.mem_of_getElem? (i := 2054) (by decide +kernel)) (by decide +kernel)), (gIn (List.mem_of_getElem? (i := 2056) (by decide +kernel)) (by decide +kernel)), (gIn (List.mem_of_getElem? (i := 62) (by decide +kernel)) (by decide +kernel)), (gIn (List.mem_of_getElem? (i := 93) (by decide +kernel)) (by decide +kernel)), (gIn (List.mem_of_getElem? (i := 2057) (by decide +kernel)) (by decide +kernel)), rfl, ⟨by decide +kernel, by decide +kernel, by decide +kernel⟩⟩
set_option maxRecDepth 100000 in
theorem kX10_182 : gLkV RX10 182 13 M_X10_isWrong 1 := ⟨TX10, 20, rfl, (gIn (List.mem_of_getElem? (i := 2086) (by decide +kernel)) (by decide +kernel)), (gIn (List.mem_of_getElem? (i := 2088) (by decide +kernel)) (by decide +kernel)), (gIn (List.mem_of_getElem? (i := 63) (by decide +kernel)) (by decide +kernel)), (gIn (List.mem_of_getElem? (i := 93) (by decide +kernel)) (by decide +kernel)), (gIn (List.mem_of_getElem? (i := 2089) (by decide +kernel)) (by decide +kernel)), rfl, ⟨by decide +kernel, by decide +kernel, by decide +kernel⟩⟩
set_option maxRecDepth 100000 in
theorem kX10_185 : gLkV RX10 185 13 M_X10_lettersIn 2 := ⟨TX10, 20, rfl, (gIn (List.mem_of_getElem? (i := 2106) (by decide +kernel)) (by decide +kernel)), (gIn (List.mem_of_getElem? (i := 2108) (by decide +kernel)) (by decide +kernel)), (gIn (List.mem_of_getElem? (i := 64) (by decide +kernel)) (by decide +kernel)), (gIn (List.mem_of_getElem? (i := 93) (by decide +kernel)) (by decide +kernel)), (gIn (List.mem_of_getElem? (i := 2109) (by decide +kernel)) (by decide +kernel)), rfl, ⟨by decide +kernel, by decide +kernel, by decide +kernel⟩⟩
set_option maxRecDepth 100000 in
theorem kX10_188 : gLkV RX10 188 13 M_X10_routeOf 1 := ⟨TX10, 20, rfl, (gIn (List.mem_of_getElem? (i := 2126) (by decide +kernel)) (by decide +kernel)), (gIn (List.mem_of_getElem? (i := 2128) (by decide +kernel)) (by decide +kernel)), (gIn (List.mem_of_getElem? (i := 65) (by decide +kernel)) (by decide +kernel)), (gIn (List.mem_of_getElem? (i := 93) (by decide +kernel)) (by decide +kernel)), (gIn (List.mem_of_getElem? (i := 2129) (by decide +kernel)) (by decide +kernel)), rfl, ⟨by decide +kernel, by decide +kernel, by decide +kernel⟩⟩
set_option maxRecDepth 100000 in
theorem kX10_191 : gLkV RX10 191 13 M_X10_isBag 2 := ⟨TX10, 20, rfl, (gIn (List.mem_of_getElem? (i := 2150) (by decide +kernel)) (by decide +kernel)), (gIn (List.mem_of_getElem? (i := 2152) (by decide +kernel)) (by decide +kernel)), (gIn (List.mem_of_getElem? (i := 66) (by decide +kernel)) (by decide +kernel)), (gIn (List.mem_of_getElem? (i := 93) (by decide +kernel)) (by decide +kernel)), (gIn (List.mem_of_getElem? (i := 2153) (by decide +kernel)) (by decide +kernel)), rfl, ⟨by decide +kernel, by decide +kernel, by decide +kernel⟩⟩
set_option maxRecDepth 100000 in
theorem kX10_194 : gLkV RX10 194 13 M_X10_hoursTo 1 := ⟨TX10, 20, rfl, (gIn (List.mem_of_getElem? (i := 2178) (by decide +kernel)) (by decide +kernel)), (gIn (List.mem_of_getElem? (i := 2180) (by decide +kernel)) (by decide +kernel)), (gIn (List.mem_of_getElem? (i := 67) (by decide +kernel)) (by decide +kernel)), (gIn (List.mem_of_getElem? (i := 93) (by decide +kernel)) (by decide +kernel)), (gIn (List.mem_of_getElem? (i := 2181) (by decide +kernel)) (by decide +kernel)), rfl, ⟨by decide +kernel, by decide +kernel, by decide +kernel⟩⟩
set_option maxRecDepth 100000 in
theorem kX10_197 : gLkV RX10 197 13 M_X10_hoursFor 1 := ⟨TX10, 20, rfl, (gIn (List.mem_of_getElem? (i := 2186) (by decide +kernel)) (by decide +kernel)), (gIn (List.mem_of_getElem? (i := 2188) (by decide +kernel)) (by decide +kernel)), (gIn (List.mem_of_getElem? (i := 68) (by decide +kernel)) (by decide +kernel)), (gIn (List.mem_of_getElem? (i := 93) (by decide +kernel)) (by decide +kernel)), (gIn (List.mem_of_getElem? (i := 2189) (by decide +kernel)) (by decide +kernel)), rfl, ⟨by decide +kernel, by decide +kernel, by decide +kernel⟩⟩
set_option maxRecDepth 100000 in
theorem kX10_200 : gLkV RX10 200 13 M_X10_put 2 := ⟨TX10, 20, rfl, (gIn (List.mem_of_getElem? (i := 2238) (by decide +kernel)) (by decide +kernel)), (gIn (List.mem_of_getElem? (i := 2240) (by decide +kernel)) (by decide +kernel)), (gIn (List.mem_of_getElem? (i := 69) (by decide +kernel)) (by decide +kernel)), (gIn (List.mem_of_getElem? (i := 93) (by decide +kernel)) (by decide +kernel)), (gIn (List.mem_of_getElem? (i := 2241) (by decide +kernel)) (by decide +kernel)), rfl, ⟨by decide +kernel, by decide +kernel, by decide +kernel⟩⟩
set_option maxRecDepth 100000 in
theorem kX10_203 : gLkV RX10 203 13 M_X10_writesNumber 2 := ⟨TX10, 20, rfl, (gIn (List.mem_of_getElem? (i := 2242) (by decide +kernel)) (by decide +kernel)), (gIn (List.mem_of_getElem? (i := 2244) (by decide +kernel)) (by decide +kernel)), (gIn (List.mem_of_getElem? (i := 70) (by decide +kernel)) (by decide +kernel)), (gIn (List.mem_of_getElem? (i := 93) (by decide +kernel)) (by decide +kernel)), (gIn (List.mem_of_getElem? (i := 2245) (by decide +kernel)) (by decide +kernel)), rfl, ⟨by decide +kernel, by decide +kernel, by decide +kernel⟩⟩
set_option maxRecDepth 100000 in
theorem kX10_206 : gLkV RX10 206 13 M_X10_writesCode 2 := ⟨TX10, 20, rfl, (gIn (List.mem_of_getElem? (i := 2246) (by decide +kernel)) (by decide +kernel)), (gIn (List.mem_of_getElem? (i := 2248) (by decide +kernel)) (by decide +kernel)), (gIn (List.mem_of_getElem? (i := 71) (by decide +kernel)) (by decide +kernel)), (gIn (List.mem_of_getElem? (i := 93) (by decide +kernel)) (by decide +kernel)), (gIn (List.mem_of_getElem? (i := 2249) (by decide +kernel)) (by decide +kernel)), rfl, ⟨by decide +kernel, by decide +kernel, by decide +kernel⟩⟩
set_option maxRecDepth 100000 in
theorem fX10_209 : gFld RX10 209 13 12 (.int) false := ⟨_, "MailOfficeModel", TX10, 20, tyX10, rfl, by decide, inGX10, (gIn (List.mem_of_getElem? (i := 1789) (by decide +kernel)) (by decide +kernel)), Or.inl rfl, tyX10_ok, nmX10, rfl, rfl⟩
set_option maxRecDepth 100000 in
theorem fX10_212 : gFld RX10 212 13 10 (.int) false := ⟨_, "MailOfficeModel", TX10, 20, tyX10, rfl, by decide, inGX10, (gIn (List.mem_of_getElem? (i := 1787) (by decide +kernel)) (by decide +kernel)), Or.inl rfl, tyX10_ok, nmX10, rfl, rfl⟩
set_option maxRecDepth 100000 in
theorem fX10_215 : gFld RX10 215 13 15 (.int) false := ⟨_, "MailOfficeModel", TX10, 20, tyX10, rfl, by decide, inGX10, (gIn (List.mem_of_getElem? (i := 1792) (by decide +kernel)) (by decide +kernel)), Or.inl rfl, tyX10_ok, nmX10, rfl, rfl⟩
set_option maxRecDepth 100000 in
theorem fX10_218 : gFld RX10 218 13 14 (.int) false := ⟨_, "MailOfficeModel", TX10, 20, tyX10, rfl, by decide, inGX10, (gIn (List.mem_of_getElem? (i := 1791) (by decide +kernel)) (by decide +kernel)), Or.inl rfl, tyX10_ok, nmX10, rfl, rfl⟩
set_option maxRecDepth 100000 in
theorem fX10_221 : gFld RX10 221 13 16 (.int) false := ⟨_, "MailOfficeModel", TX10, 20, tyX10, rfl, by decide, inGX10, (gIn (List.mem_of_getElem? (i := 1793) (by decide +kernel)) (by decide +kernel)), Or.inl rfl, tyX10_ok, nmX10, rfl, rfl⟩
set_option maxRecDepth 100000 in
theorem kX10_224 : gLkV RX10 224 13 M_X10_letterHere 0 := ⟨TX10, 20, rfl, (gIn (List.mem_of_getElem? (i := 2279) (by decide +kernel)) (by decide +kernel)), (gIn (List.mem_of_getElem? (i := 2281) (by decide +kernel)) (by decide +kernel)), (gIn (List.mem_of_getElem? (i := 75) (by decide +kernel)) (by decide +kernel)), (gIn (List.mem_of_getElem? (i := 93) (by decide +kernel)) (by decide +kernel)), (gIn (List.mem_of_getElem? (i := 2282) (by decide +kernel)) (by decide +kernel)), rfl, ⟨by decide +kernel, by decide +kernel, by decide +kernel⟩⟩
set_option maxRecDepth 100000 in
theorem kX10_227 : gLkV RX10 227 13 M_X10_reads 2 := ⟨TX10, 20, rfl, (gIn (List.mem_of_getElem? (i := 2291) (by decide +kernel)) (by decide +kernel)), (gIn (List.mem_of_getElem? (i := 2293) (by decide +kernel)) (by decide +kernel)), (gIn (List.mem_of_getElem? (i := 78) (by decide +kernel)) (by decide +kernel)), (gIn (List.mem_of_getElem? (i := 93) (by decide +kernel)) (by decide +kernel)), (gIn (List.mem_of_getElem? (i := 2294) (by decide +kernel)) (by decide +kernel)), rfl, ⟨by decide +kernel, by decide +kernel, by decide +kernel⟩⟩
set_option maxRecDepth 100000 in
theorem fX10_230 : gFld RX10 230 13 18 (.int) false := ⟨_, "MailOfficeModel", TX10, 20, tyX10, rfl, by decide, inGX10, (gIn (List.mem_of_getElem? (i := 1795) (by decide +kernel)) (by decide +kernel)), Or.inl rfl, tyX10_ok, nmX10, rfl, rfl⟩
set_option maxRecDepth 100000 in
theorem kX10_233 : gLkS RX10 233 M_X10_startOf 1 := ⟨(gIn (List.mem_of_getElem? (i := 2274) (by decide +kernel)) (by decide +kernel)), (gIn (List.mem_of_getElem? (i := 2275) (by decide +kernel)) (by decide +kernel)), (gIn (List.mem_of_getElem? (i := 93) (by decide +kernel)) (by decide +kernel)), (gIn (List.mem_of_getElem? (i := 2276) (by decide +kernel)) (by decide +kernel)), rfl, ⟨by decide +kernel, by decide +kernel, by decide +kernel⟩⟩
set_option maxRecDepth 100000 in
theorem kX10_238 : gLkV RX10 238 0 M_J0_charAt_5068e 1 := ⟨TJ0, 4, rfl, (gIn (List.mem_of_getElem? (i := 2278) (by decide +kernel)) (by decide +kernel)), (gIn (List.mem_of_getElem? (i := 1644) (by decide +kernel)) (by decide +kernel)), (gIn (List.mem_of_getElem? (i := 1645) (by decide +kernel)) (by decide +kernel)), (gIn (List.mem_of_getElem? (i := 91) (by decide +kernel)) (by decide +kernel)), (gIn (List.mem_of_getElem? (i := 1646) (by decide +kernel)) (by decide +kernel)), rfl, ⟨by decide +kernel, by decide +kernel, by decide +kernel⟩⟩
set_option maxRecDepth 100000 in
theorem kX10_244 : gLkV RX10 244 13 M_X10_number 1 := ⟨TX10, 20, rfl, (gIn (List.mem_of_getElem? (i := 2287) (by decide +kernel)) (by decide +kernel)), (gIn (List.mem_of_getElem? (i := 2289) (by decide +kernel)) (by decide +kernel)), (gIn (List.mem_of_getElem? (i := 77) (by decide +kernel)) (by decide +kernel)), (gIn (List.mem_of_getElem? (i := 93) (by decide +kernel)) (by decide +kernel)), (gIn (List.mem_of_getElem? (i := 2290) (by decide +kernel)) (by decide +kernel)), rfl, ⟨by decide +kernel, by decide +kernel, by decide +kernel⟩⟩
set_option maxRecDepth 100000 in
theorem fX10_247 : gFld RX10 247 13 17 (.int) false := ⟨_, "MailOfficeModel", TX10, 20, tyX10, rfl, by decide, inGX10, (gIn (List.mem_of_getElem? (i := 1794) (by decide +kernel)) (by decide +kernel)), Or.inl rfl, tyX10_ok, nmX10, rfl, rfl⟩
set_option maxRecDepth 100000 in
theorem kX10_250 : gLkV RX10 250 13 M_X10_kindHere 0 := ⟨TX10, 20, rfl, (gIn (List.mem_of_getElem? (i := 2270) (by decide +kernel)) (by decide +kernel)), (gIn (List.mem_of_getElem? (i := 2272) (by decide +kernel)) (by decide +kernel)), (gIn (List.mem_of_getElem? (i := 74) (by decide +kernel)) (by decide +kernel)), (gIn (List.mem_of_getElem? (i := 93) (by decide +kernel)) (by decide +kernel)), (gIn (List.mem_of_getElem? (i := 2273) (by decide +kernel)) (by decide +kernel)), rfl, ⟨by decide +kernel, by decide +kernel, by decide +kernel⟩⟩
set_option maxRecDepth 100000 in
theorem kX10_253 : gLkV RX10 253 13 M_X10_readsNumbers 2 := ⟨TX10, 20, rfl, (gIn (List.mem_of_getElem? (i := 2283) (by decide +kernel)) (by decide +kernel)), (gIn (List.mem_of_getElem? (i := 2285) (by decide +kernel)) (by decide +kernel)), (gIn (List.mem_of_getElem? (i := 76) (by decide +kernel)) (by decide +kernel)), (gIn (List.mem_of_getElem? (i := 93) (by decide +kernel)) (by decide +kernel)), (gIn (List.mem_of_getElem? (i := 2286) (by decide +kernel)) (by decide +kernel)), rfl, ⟨by decide +kernel, by decide +kernel, by decide +kernel⟩⟩
set_option maxRecDepth 100000 in
theorem kX10_257 : gLkV RX10 257 13 M_X10_readsCommand 0 := ⟨TX10, 20, rfl, (gIn (List.mem_of_getElem? (i := 2266) (by decide +kernel)) (by decide +kernel)), (gIn (List.mem_of_getElem? (i := 2268) (by decide +kernel)) (by decide +kernel)), (gIn (List.mem_of_getElem? (i := 73) (by decide +kernel)) (by decide +kernel)), (gIn (List.mem_of_getElem? (i := 93) (by decide +kernel)) (by decide +kernel)), (gIn (List.mem_of_getElem? (i := 2269) (by decide +kernel)) (by decide +kernel)), rfl, ⟨by decide +kernel, by decide +kernel, by decide +kernel⟩⟩
set_option maxRecDepth 100000 in
theorem kX10_260 : gLkV RX10 260 13 M_X10_readsAll 0 := ⟨TX10, 20, rfl, (gIn (List.mem_of_getElem? (i := 2262) (by decide +kernel)) (by decide +kernel)), (gIn (List.mem_of_getElem? (i := 2264) (by decide +kernel)) (by decide +kernel)), (gIn (List.mem_of_getElem? (i := 72) (by decide +kernel)) (by decide +kernel)), (gIn (List.mem_of_getElem? (i := 93) (by decide +kernel)) (by decide +kernel)), (gIn (List.mem_of_getElem? (i := 2265) (by decide +kernel)) (by decide +kernel)), rfl, ⟨by decide +kernel, by decide +kernel, by decide +kernel⟩⟩
set_option maxRecDepth 100000 in
theorem kX10_263 : gLkV RX10 263 13 M_X10_does 1 := ⟨TX10, 20, rfl, (gIn (List.mem_of_getElem? (i := 2295) (by decide +kernel)) (by decide +kernel)), (gIn (List.mem_of_getElem? (i := 2297) (by decide +kernel)) (by decide +kernel)), (gIn (List.mem_of_getElem? (i := 79) (by decide +kernel)) (by decide +kernel)), (gIn (List.mem_of_getElem? (i := 93) (by decide +kernel)) (by decide +kernel)), (gIn (List.mem_of_getElem? (i := 2298) (by decide +kernel)) (by decide +kernel)), rfl, ⟨by decide +kernel, by decide +kernel, by decide +kernel⟩⟩
set_option maxRecDepth 100000 in
theorem fJ5_15 : gFld RJ5 15 1 0 (.array .byte) false := ⟨_, "java/lang/AbstractStringBuilder", TJ4, 4, tyJ4, rfl, by decide, inGJ4, (gIn (List.mem_of_getElem? (i := 294) (by decide +kernel)) (by decide +kernel)), Or.inl rfl, tyJ4_ok, nmJ4, rfl, rfl⟩
set_option maxRecDepth 100000 in
theorem fJ5_22 : gFld RJ5 22 1 1 (.byte) false := ⟨_, "java/lang/AbstractStringBuilder", TJ4, 4, tyJ4, rfl, by decide, inGJ4, (gIn (List.mem_of_getElem? (i := 295) (by decide +kernel)) (by decide +kernel)), Or.inl rfl, tyJ4_ok, nmJ4, rfl, rfl⟩
set_option maxRecDepth 100000 in
theorem kJ5_26 : gLkS RJ5 26 M_J2_newBytesFor_77867 1 := ⟨(gIn (List.mem_of_getElem? (i := 287) (by decide +kernel)) (by decide +kernel)), (gIn (List.mem_of_getElem? (i := 288) (by decide +kernel)) (by decide +kernel)), (gIn (List.mem_of_getElem? (i := 92) (by decide +kernel)) (by decide +kernel)), (gIn (List.mem_of_getElem? (i := 289) (by decide +kernel)) (by decide +kernel)), rfl, ⟨by decide +kernel, by decide +kernel, by decide +kernel⟩⟩
set_option maxRecDepth 100000 in
theorem fJ5_79 : gFld RJ5 79 1 3 (.int) false := ⟨_, "java/lang/AbstractStringBuilder", TJ4, 4, tyJ4, rfl, by decide, inGJ4, (gIn (List.mem_of_getElem? (i := 298) (by decide +kernel)) (by decide +kernel)), Or.inl rfl, tyJ4_ok, nmJ4, rfl, rfl⟩
set_option maxRecDepth 100000 in
theorem kJ5_108 : gLkS RJ5 108 M_J7_copyOf_9075b 2 := ⟨(gIn (List.mem_of_getElem? (i := 1331) (by decide +kernel)) (by decide +kernel)), (gIn (List.mem_of_getElem? (i := 1332) (by decide +kernel)) (by decide +kernel)), (gIn (List.mem_of_getElem? (i := 99) (by decide +kernel)) (by decide +kernel)), (gIn (List.mem_of_getElem? (i := 1333) (by decide +kernel)) (by decide +kernel)), rfl, ⟨by decide +kernel, by decide +kernel, by decide +kernel⟩⟩
set_option maxRecDepth 100000 in
theorem kJ5_114 : gLkS RJ5 114 M_J8_newLength_cabcc 3 := ⟨(gIn (List.mem_of_getElem? (i := 1329) (by decide +kernel)) (by decide +kernel)), (gIn (List.mem_of_getElem? (i := 429) (by decide +kernel)) (by decide +kernel)), (gIn (List.mem_of_getElem? (i := 97) (by decide +kernel)) (by decide +kernel)), (gIn (List.mem_of_getElem? (i := 430) (by decide +kernel)) (by decide +kernel)), rfl, ⟨by decide +kernel, by decide +kernel, by decide +kernel⟩⟩
set_option maxRecDepth 100000 in
theorem kJ5_125 : gLkS RJ5 125 M_J1_inflate_0e8fd 5 := ⟨(gIn (List.mem_of_getElem? (i := 1394) (by decide +kernel)) (by decide +kernel)), (gIn (List.mem_of_getElem? (i := 1395) (by decide +kernel)) (by decide +kernel)), (gIn (List.mem_of_getElem? (i := 111) (by decide +kernel)) (by decide +kernel)), (gIn (List.mem_of_getElem? (i := 1396) (by decide +kernel)) (by decide +kernel)), rfl, ⟨by decide +kernel, by decide +kernel, by decide +kernel⟩⟩
set_option maxRecDepth 100000 in
theorem kJ5_131 : gLkI RJ5 131 M_Jx7c733_init_d00df 1 := ⟨(gIn (List.mem_of_getElem? (i := 1304) (by decide +kernel)) (by decide +kernel)), rfl, rfl, (gIn (List.mem_of_getElem? (i := 1305) (by decide +kernel)) (by decide +kernel)), (gIn (List.mem_of_getElem? (i := 110) (by decide +kernel)) (by decide +kernel)), (gIn (List.mem_of_getElem? (i := 1306) (by decide +kernel)) (by decide +kernel)), rfl, ⟨by decide +kernel, by decide +kernel, by decide +kernel⟩⟩
set_option maxRecDepth 100000 in
theorem kJ5_133 : gLkS RJ5 133 M_J1_fillNull_b72d1 3 := ⟨(gIn (List.mem_of_getElem? (i := 1511) (by decide +kernel)) (by decide +kernel)), (gIn (List.mem_of_getElem? (i := 1512) (by decide +kernel)) (by decide +kernel)), (gIn (List.mem_of_getElem? (i := 111) (by decide +kernel)) (by decide +kernel)), (gIn (List.mem_of_getElem? (i := 1513) (by decide +kernel)) (by decide +kernel)), rfl, ⟨by decide +kernel, by decide +kernel, by decide +kernel⟩⟩
set_option maxRecDepth 100000 in
theorem kJ5_137 : gLkS RJ5 137 M_J2_fillNull_b72d1 3 := ⟨(gIn (List.mem_of_getElem? (i := 1533) (by decide +kernel)) (by decide +kernel)), (gIn (List.mem_of_getElem? (i := 1534) (by decide +kernel)) (by decide +kernel)), (gIn (List.mem_of_getElem? (i := 92) (by decide +kernel)) (by decide +kernel)), (gIn (List.mem_of_getElem? (i := 1535) (by decide +kernel)) (by decide +kernel)), rfl, ⟨by decide +kernel, by decide +kernel, by decide +kernel⟩⟩
set_option maxRecDepth 100000 in
theorem fJ5_73 : gFld RJ5 73 1 2 (.boolean) false := ⟨_, "java/lang/AbstractStringBuilder", TJ4, 4, tyJ4, rfl, by decide, inGJ4, (gIn (List.mem_of_getElem? (i := 296) (by decide +kernel)) (by decide +kernel)), Or.inl rfl, tyJ4_ok, nmJ4, rfl, rfl⟩
set_option maxRecDepth 100000 in
theorem kJ5_138 : gLkS RJ5 138 M_J9_min_7cf53 2 := ⟨(gIn (List.mem_of_getElem? (i := 1582) (by decide +kernel)) (by decide +kernel)), (gIn (List.mem_of_getElem? (i := 472) (by decide +kernel)) (by decide +kernel)), (gIn (List.mem_of_getElem? (i := 98) (by decide +kernel)) (by decide +kernel)), (gIn (List.mem_of_getElem? (i := 473) (by decide +kernel)) (by decide +kernel)), rfl, ⟨by decide +kernel, by decide +kernel, by decide +kernel⟩⟩
set_option maxRecDepth 100000 in
theorem kJ5_144 : gLkS RJ5 144 M_J0_checkIndex_df160 2 := ⟨(gIn (List.mem_of_getElem? (i := 1583) (by decide +kernel)) (by decide +kernel)), (gIn (List.mem_of_getElem? (i := 1558) (by decide +kernel)) (by decide +kernel)), (gIn (List.mem_of_getElem? (i := 91) (by decide +kernel)) (by decide +kernel)), (gIn (List.mem_of_getElem? (i := 1559) (by decide +kernel)) (by decide +kernel)), rfl, ⟨by decide +kernel, by decide +kernel, by decide +kernel⟩⟩
set_option maxRecDepth 100000 in
theorem kJ5_148 : gLkS RJ5 148 M_J2_getChar_3b067 2 := ⟨(gIn (List.mem_of_getElem? (i := 1584) (by decide +kernel)) (by decide +kernel)), (gIn (List.mem_of_getElem? (i := 1490) (by decide +kernel)) (by decide +kernel)), (gIn (List.mem_of_getElem? (i := 92) (by decide +kernel)) (by decide +kernel)), (gIn (List.mem_of_getElem? (i := 1491) (by decide +kernel)) (by decide +kernel)), rfl, ⟨by decide +kernel, by decide +kernel, by decide +kernel⟩⟩
set_option maxRecDepth 100000 in
theorem kJ5_32 : gLkV RJ5 32 0 M_J0_length_8abf5 0 := ⟨TJ0, 4, rfl, (gIn (List.mem_of_getElem? (i := 1372) (by decide +kernel)) (by decide +kernel)), (gIn (List.mem_of_getElem? (i := 1373) (by decide +kernel)) (by decide +kernel)), (gIn (List.mem_of_getElem? (i := 1374) (by decide +kernel)) (by decide +kernel)), (gIn (List.mem_of_getElem? (i := 91) (by decide +kernel)) (by decide +kernel)), (gIn (List.mem_of_getElem? (i := 1375) (by decide +kernel)) (by decide +kernel)), rfl, ⟨by decide +kernel, by decide +kernel, by decide +kernel⟩⟩
set_option maxRecDepth 100000 in
theorem kJ5_226 : gLkS RJ5 226 M_J2_putCharsAt_cd4e5 6 := ⟨(gIn (List.mem_of_getElem? (i := 1346) (by decide +kernel)) (by decide +kernel)), (gIn (List.mem_of_getElem? (i := 1347) (by decide +kernel)) (by decide +kernel)), (gIn (List.mem_of_getElem? (i := 92) (by decide +kernel)) (by decide +kernel)), (gIn (List.mem_of_getElem? (i := 1348) (by decide +kernel)) (by decide +kernel)), rfl, ⟨by decide +kernel, by decide +kernel, by decide +kernel⟩⟩
set_option maxRecDepth 100000 in
theorem kJ5_191 : gLkS RJ5 191 M_J1_canEncode_fc78d 1 := ⟨(gIn (List.mem_of_getElem? (i := 1548) (by decide +kernel)) (by decide +kernel)), (gIn (List.mem_of_getElem? (i := 1549) (by decide +kernel)) (by decide +kernel)), (gIn (List.mem_of_getElem? (i := 111) (by decide +kernel)) (by decide +kernel)), (gIn (List.mem_of_getElem? (i := 1550) (by decide +kernel)) (by decide +kernel)), rfl, ⟨by decide +kernel, by decide +kernel, by decide +kernel⟩⟩
set_option maxRecDepth 100000 in
theorem kJ5_197 : gLkS RJ5 197 M_J2_putCharSB_b72d1 3 := ⟨(gIn (List.mem_of_getElem? (i := 1551) (by decide +kernel)) (by decide +kernel)), (gIn (List.mem_of_getElem? (i := 1552) (by decide +kernel)) (by decide +kernel)), (gIn (List.mem_of_getElem? (i := 92) (by decide +kernel)) (by decide +kernel)), (gIn (List.mem_of_getElem? (i := 1553) (by decide +kernel)) (by decide +kernel)), rfl, ⟨by decide +kernel, by decide +kernel, by decide +kernel⟩⟩
set_option maxRecDepth 100000 in
theorem kJ5_245 : gLkS RJ5 245 M_J6_stringSize_0f7a4 1 := ⟨(gIn (List.mem_of_getElem? (i := 1422) (by decide +kernel)) (by decide +kernel)), (gIn (List.mem_of_getElem? (i := 1423) (by decide +kernel)) (by decide +kernel)), (gIn (List.mem_of_getElem? (i := 113) (by decide +kernel)) (by decide +kernel)), (gIn (List.mem_of_getElem? (i := 1424) (by decide +kernel)) (by decide +kernel)), rfl, ⟨by decide +kernel, by decide +kernel, by decide +kernel⟩⟩
set_option maxRecDepth 100000 in
theorem kJ5_248 : gLkS RJ5 248 M_J6_getChars_ba4f3 3 := ⟨(gIn (List.mem_of_getElem? (i := 1425) (by decide +kernel)) (by decide +kernel)), (gIn (List.mem_of_getElem? (i := 1426) (by decide +kernel)) (by decide +kernel)), (gIn (List.mem_of_getElem? (i := 113) (by decide +kernel)) (by decide +kernel)), (gIn (List.mem_of_getElem? (i := 1427) (by decide +kernel)) (by decide +kernel)), rfl, ⟨by decide +kernel, by decide +kernel, by decide +kernel⟩⟩
set_option maxRecDepth 100000 in
theorem kJ5_251 : gLkS RJ5 251 M_J2_getChars_46870 4 := ⟨(gIn (List.mem_of_getElem? (i := 1432) (by decide +kernel)) (by decide +kernel)), (gIn (List.mem_of_getElem? (i := 1433) (by decide +kernel)) (by decide +kernel)), (gIn (List.mem_of_getElem? (i := 92) (by decide +kernel)) (by decide +kernel)), (gIn (List.mem_of_getElem? (i := 1434) (by decide +kernel)) (by decide +kernel)), rfl, ⟨by decide +kernel, by decide +kernel, by decide +kernel⟩⟩
set_option maxRecDepth 100000 in
theorem kJ5_40 : gLkV RJ5 40 0 M_J0_coder_7d493 0 := ⟨TJ0, 4, rfl, (gIn (List.mem_of_getElem? (i := 1389) (by decide +kernel)) (by decide +kernel)), (gIn (List.mem_of_getElem? (i := 1377) (by decide +kernel)) (by decide +kernel)), (gIn (List.mem_of_getElem? (i := 1378) (by decide +kernel)) (by decide +kernel)), (gIn (List.mem_of_getElem? (i := 91) (by decide +kernel)) (by decide +kernel)), (gIn (List.mem_of_getElem? (i := 1379) (by decide +kernel)) (by decide +kernel)), rfl, ⟨by decide +kernel, by decide +kernel, by decide +kernel⟩⟩
set_option maxRecDepth 100000 in
theorem kJ5_399 : gLkV RJ5 399 0 M_J0_getBytes_840e7 3 := ⟨TJ0, 4, rfl, (gIn (List.mem_of_getElem? (i := 1409) (by decide +kernel)) (by decide +kernel)), (gIn (List.mem_of_getElem? (i := 1410) (by decide +kernel)) (by decide +kernel)), (gIn (List.mem_of_getElem? (i := 1411) (by decide +kernel)) (by decide +kernel)), (gIn (List.mem_of_getElem? (i := 91) (by decide +kernel)) (by decide +kernel)), (gIn (List.mem_of_getElem? (i := 1412) (by decide +kernel)) (by decide +kernel)), rfl, ⟨by decide +kernel, by decide +kernel, by decide +kernel⟩⟩
set_option maxRecDepth 100000 in
theorem kJx00060_12 : gLkI RJx00060 12 M_J4_init_da8c8 0 := ⟨(gIn (List.mem_of_getElem? (i := 1528) (by decide +kernel)) (by decide +kernel)), rfl, rfl, (gIn (List.mem_of_getElem? (i := 279) (by decide +kernel)) (by decide +kernel)), (gIn (List.mem_of_getElem? (i := 90) (by decide +kernel)) (by decide +kernel)), (gIn (List.mem_of_getElem? (i := 280) (by decide +kernel)) (by decide +kernel)), rfl, ⟨by decide +kernel, by decide +kernel, by decide +kernel⟩⟩
set_option maxRecDepth 100000 in
theorem kJx00060_15 : gLkV RJx00060 15 1 M_J4_append_15ec4 1 := ⟨TJ4, 4, rfl, (gIn (List.mem_of_getElem? (i := 1530) (by decide +kernel)) (by decide +kernel)), (gIn (List.mem_of_getElem? (i := 1311) (by decide +kernel)) (by decide +kernel)), (gIn (List.mem_of_getElem? (i := 1312) (by decide +kernel)) (by decide +kernel)), (gIn (List.mem_of_getElem? (i := 90) (by decide +kernel)) (by decide +kernel)), (gIn (List.mem_of_getElem? (i := 1313) (by decide +kernel)) (by decide +kernel)), rfl, ⟨by decide +kernel, by decide +kernel, by decide +kernel⟩⟩
set_option maxRecDepth 100000 in
theorem kJx00060_19 : gLkV RJx00060 19 1 M_J4_append_bf812 1 := ⟨TJ4, 4, rfl, (gIn (List.mem_of_getElem? (i := 1531) (by decide +kernel)) (by decide +kernel)), (gIn (List.mem_of_getElem? (i := 1416) (by decide +kernel)) (by decide +kernel)), (gIn (List.mem_of_getElem? (i := 1417) (by decide +kernel)) (by decide +kernel)), (gIn (List.mem_of_getElem? (i := 90) (by decide +kernel)) (by decide +kernel)), (gIn (List.mem_of_getElem? (i := 1418) (by decide +kernel)) (by decide +kernel)), rfl, ⟨by decide +kernel, by decide +kernel, by decide +kernel⟩⟩
set_option maxRecDepth 100000 in
theorem kJx00060_22 : gLkV RJx00060 22 1 M_J4_toString_0e30d 0 := ⟨TJ4, 4, rfl, (gIn (List.mem_of_getElem? (i := 1532) (by decide +kernel)) (by decide +kernel)), (gIn (List.mem_of_getElem? (i := 1441) (by decide +kernel)) (by decide +kernel)), (gIn (List.mem_of_getElem? (i := 1442) (by decide +kernel)) (by decide +kernel)), (gIn (List.mem_of_getElem? (i := 90) (by decide +kernel)) (by decide +kernel)), (gIn (List.mem_of_getElem? (i := 1443) (by decide +kernel)) (by decide +kernel)), rfl, ⟨by decide +kernel, by decide +kernel, by decide +kernel⟩⟩
set_option maxRecDepth 100000 in
theorem kJ0_489 : gLkI RJ0 489 M_J0_init_db425 2 := ⟨(gIn (List.mem_of_getElem? (i := 1448) (by decide +kernel)) (by decide +kernel)), rfl, rfl, (gIn (List.mem_of_getElem? (i := 1449) (by decide +kernel)) (by decide +kernel)), (gIn (List.mem_of_getElem? (i := 91) (by decide +kernel)) (by decide +kernel)), (gIn (List.mem_of_getElem? (i := 1450) (by decide +kernel)) (by decide +kernel)), rfl, ⟨by decide +kernel, by decide +kernel, by decide +kernel⟩⟩
set_option maxRecDepth 100000 in
theorem fJ0_9 : gFld RJ0 9 0 0 (.array .byte) true := ⟨_, "java/lang/String", TJ0, 4, tyJ0, rfl, by decide, inGJ0, (gIn (List.mem_of_getElem? (i := 1496) (by decide +kernel)) (by decide +kernel)), Or.inl rfl, tyJ0_ok, nmJ0, rfl, rfl⟩
set_option maxRecDepth 100000 in
theorem kJ0_335 : gLkV RJ0 335 0 M_J0_coder_7d493 0 := ⟨TJ0, 4, rfl, (gIn (List.mem_of_getElem? (i := 1376) (by decide +kernel)) (by decide +kernel)), (gIn (List.mem_of_getElem? (i := 1377) (by decide +kernel)) (by decide +kernel)), (gIn (List.mem_of_getElem? (i := 1378) (by decide +kernel)) (by decide +kernel)), (gIn (List.mem_of_getElem? (i := 91) (by decide +kernel)) (by decide +kernel)), (gIn (List.mem_of_getElem? (i := 1379) (by decide +kernel)) (by decide +kernel)), rfl, ⟨by decide +kernel, by decide +kernel, by decide +kernel⟩⟩
set_option maxRecDepth 100000 in
theorem kJ0_492 : gLkV RJ0 492 0 M_J0_isLatin1_aae02 0 := ⟨TJ0, 4, rfl, (gIn (List.mem_of_getElem? (i := 1647) (by decide +kernel)) (by decide +kernel)), (gIn (List.mem_of_getElem? (i := 1648) (by decide +kernel)) (by decide +kernel)), (gIn (List.mem_of_getElem? (i := 1649) (by decide +kernel)) (by decide +kernel)), (gIn (List.mem_of_getElem? (i := 91) (by decide +kernel)) (by decide +kernel)), (gIn (List.mem_of_getElem? (i := 1650) (by decide +kernel)) (by decide +kernel)), rfl, ⟨by decide +kernel, by decide +kernel, by decide +kernel⟩⟩
set_option maxRecDepth 100000 in
theorem kJ0_495 : gLkS RJ0 495 M_J1_charAt_3b067 2 := ⟨(gIn (List.mem_of_getElem? (i := 1651) (by decide +kernel)) (by decide +kernel)), (gIn (List.mem_of_getElem? (i := 1652) (by decide +kernel)) (by decide +kernel)), (gIn (List.mem_of_getElem? (i := 111) (by decide +kernel)) (by decide +kernel)), (gIn (List.mem_of_getElem? (i := 1653) (by decide +kernel)) (by decide +kernel)), rfl, ⟨by decide +kernel, by decide +kernel, by decide +kernel⟩⟩
set_option maxRecDepth 100000 in
theorem kJ0_498 : gLkS RJ0 498 M_J2_charAt_3b067 2 := ⟨(gIn (List.mem_of_getElem? (i := 1655) (by decide +kernel)) (by decide +kernel)), (gIn (List.mem_of_getElem? (i := 1656) (by decide +kernel)) (by decide +kernel)), (gIn (List.mem_of_getElem? (i := 92) (by decide +kernel)) (by decide +kernel)), (gIn (List.mem_of_getElem? (i := 1657) (by decide +kernel)) (by decide +kernel)), rfl, ⟨by decide +kernel, by decide +kernel, by decide +kernel⟩⟩
set_option maxRecDepth 100000 in
theorem kJ0_106 : gLkS RJ0 106 M_J1_inflate_0e8fd 5 := ⟨(gIn (List.mem_of_getElem? (i := 1414) (by decide +kernel)) (by decide +kernel)), (gIn (List.mem_of_getElem? (i := 1395) (by decide +kernel)) (by decide +kernel)), (gIn (List.mem_of_getElem? (i := 111) (by decide +kernel)) (by decide +kernel)), (gIn (List.mem_of_getElem? (i := 1396) (by decide +kernel)) (by decide +kernel)), rfl, ⟨by decide +kernel, by decide +kernel, by decide +kernel⟩⟩
set_option maxRecDepth 100000 in
theorem fJ0_15 : gFld RJ0 15 0 1 (.byte) true := ⟨_, "java/lang/String", TJ0, 4, tyJ0, rfl, by decide, inGJ0, (gIn (List.mem_of_getElem? (i := 1497) (by decide +kernel)) (by decide +kernel)), Or.inl rfl, tyJ0_ok, nmJ0, rfl, rfl⟩
set_option maxRecDepth 100000 in
theorem kJ0_54 : gLkS RJ0 54 M_J7_copyOfRange_39247 3 := ⟨(gIn (List.mem_of_getElem? (i := 1466) (by decide +kernel)) (by decide +kernel)), (gIn (List.mem_of_getElem? (i := 1467) (by decide +kernel)) (by decide +kernel)), (gIn (List.mem_of_getElem? (i := 99) (by decide +kernel)) (by decide +kernel)), (gIn (List.mem_of_getElem? (i := 1468) (by decide +kernel)) (by decide +kernel)), rfl, ⟨by decide +kernel, by decide +kernel, by decide +kernel⟩⟩
set_option maxRecDepth 100000 in
theorem fJ0_1048 : gFld RJ0 1048 1 2 (.boolean) false := ⟨_, "java/lang/AbstractStringBuilder", TJ4, 4, tyJ4, rfl, by decide, inGJ4, (gIn (List.mem_of_getElem? (i := 297) (by decide +kernel)) (by decide +kernel)), Or.inl rfl, tyJ4_ok, nmJ4, rfl, rfl⟩
set_option maxRecDepth 100000 in
theorem kJ0_1051 : gLkS RJ0 1051 M_J2_compress_39247 3 := ⟨(gIn (List.mem_of_getElem? (i := 1483) (by decide +kernel)) (by decide +kernel)), (gIn (List.mem_of_getElem? (i := 1484) (by decide +kernel)) (by decide +kernel)), (gIn (List.mem_of_getElem? (i := 92) (by decide +kernel)) (by decide +kernel)), (gIn (List.mem_of_getElem? (i := 1485) (by decide +kernel)) (by decide +kernel)), rfl, ⟨by decide +kernel, by decide +kernel, by decide +kernel⟩⟩
set_option maxRecDepth 100000 in
theorem kJ0_47 : gLkS RJ0 47 M_J2_coderFromArrayLen_85cad 2 := ⟨(gIn (List.mem_of_getElem? (i := 1493) (by decide +kernel)) (by decide +kernel)), (gIn (List.mem_of_getElem? (i := 1494) (by decide +kernel)) (by decide +kernel)), (gIn (List.mem_of_getElem? (i := 92) (by decide +kernel)) (by decide +kernel)), (gIn (List.mem_of_getElem? (i := 1495) (by decide +kernel)) (by decide +kernel)), rfl, ⟨by decide +kernel, by decide +kernel, by decide +kernel⟩⟩
set_option maxRecDepth 100000 in
theorem kJ0_1059 : gLkS RJ0 1059 M_J3_checkIndex_8e157 3 := ⟨(gIn (List.mem_of_getElem? (i := 1560) (by decide +kernel)) (by decide +kernel)), (gIn (List.mem_of_getElem? (i := 360) (by decide +kernel)) (by decide +kernel)), (gIn (List.mem_of_getElem? (i := 95) (by decide +kernel)) (by decide +kernel)), (gIn (List.mem_of_getElem? (i := 361) (by decide +kernel)) (by decide +kernel)), rfl, ⟨by decide +kernel, by decide +kernel, by decide +kernel⟩⟩
set_option maxRecDepth 100000 in
theorem kJ0_1065 : gLkS RJ0 1065 M_J3_checkFromIndexSize_8c36e 4 := ⟨(gIn (List.mem_of_getElem? (i := 1406) (by decide +kernel)) (by decide +kernel)), (gIn (List.mem_of_getElem? (i := 1407) (by decide +kernel)) (by decide +kernel)), (gIn (List.mem_of_getElem? (i := 95) (by decide +kernel)) (by decide +kernel)), (gIn (List.mem_of_getElem? (i := 1408) (by decide +kernel)) (by decide +kernel)), rfl, ⟨by decide +kernel, by decide +kernel, by decide +kernel⟩⟩
set_option maxRecDepth 100000 in
theorem kJ0_1062 : gLkS RJ0 1062 M_J3_checkFromToIndex_8c36e 4 := ⟨(gIn (List.mem_of_getElem? (i := 1360) (by decide +kernel)) (by decide +kernel)), (gIn (List.mem_of_getElem? (i := 1361) (by decide +kernel)) (by decide +kernel)), (gIn (List.mem_of_getElem? (i := 95) (by decide +kernel)) (by decide +kernel)), (gIn (List.mem_of_getElem? (i := 1362) (by decide +kernel)) (by decide +kernel)), rfl, ⟨by decide +kernel, by decide +kernel, by decide +kernel⟩⟩
set_option maxRecDepth 100000 in
theorem kJ4_1 : gLkI RJ4 1 M_J5_init_d00df 1 := ⟨(gIn (List.mem_of_getElem? (i := 281) (by decide +kernel)) (by decide +kernel)), rfl, rfl, (gIn (List.mem_of_getElem? (i := 282) (by decide +kernel)) (by decide +kernel)), (gIn (List.mem_of_getElem? (i := 89) (by decide +kernel)) (by decide +kernel)), (gIn (List.mem_of_getElem? (i := 283) (by decide +kernel)) (by decide +kernel)), rfl, ⟨by decide +kernel, by decide +kernel, by decide +kernel⟩⟩
set_option maxRecDepth 100000 in
theorem kJ4_137 : gLkI RJ4 137 M_J0_init_81219 1 := ⟨(gIn (List.mem_of_getElem? (i := 1445) (by decide +kernel)) (by decide +kernel)), rfl, rfl, (gIn (List.mem_of_getElem? (i := 1446) (by decide +kernel)) (by decide +kernel)), (gIn (List.mem_of_getElem? (i := 91) (by decide +kernel)) (by decide +kernel)), (gIn (List.mem_of_getElem? (i := 1447) (by decide +kernel)) (by decide +kernel)), rfl, ⟨by decide +kernel, by decide +kernel, by decide +kernel⟩⟩
set_option maxRecDepth 100000 in
theorem kJx7c733_12 : gLkI RJx7c733 12 M_J4_init_da8c8 0 := ⟨(gIn (List.mem_of_getElem? (i := 1308) (by decide +kernel)) (by decide +kernel)), rfl, rfl, (gIn (List.mem_of_getElem? (i := 279) (by decide +kernel)) (by decide +kernel)), (gIn (List.mem_of_getElem? (i := 90) (by decide +kernel)) (by decide +kernel)), (gIn (List.mem_of_getElem? (i := 280) (by decide +kernel)) (by decide +kernel)), rfl, ⟨by decide +kernel, by decide +kernel, by decide +kernel⟩⟩
set_option maxRecDepth 100000 in
theorem kJx7c733_15 : gLkV RJx7c733 15 1 M_J4_append_15ec4 1 := ⟨TJ4, 4, rfl, (gIn (List.mem_of_getElem? (i := 1310) (by decide +kernel)) (by decide +kernel)), (gIn (List.mem_of_getElem? (i := 1311) (by decide +kernel)) (by decide +kernel)), (gIn (List.mem_of_getElem? (i := 1312) (by decide +kernel)) (by decide +kernel)), (gIn (List.mem_of_getElem? (i := 90) (by decide +kernel)) (by decide +kernel)), (gIn (List.mem_of_getElem? (i := 1313) (by decide +kernel)) (by decide +kernel)), rfl, ⟨by decide +kernel, by decide +kernel, by decide +kernel⟩⟩
set_option maxRecDepth 100000 in
theorem kJx7c733_19 : gLkV RJx7c733 19 1 M_J4_append_bf812 1 := ⟨TJ4, 4, rfl, (gIn (List.mem_of_getElem? (i := 1415) (by decide +kernel)) (by decide +kernel)), (gIn (List.mem_of_getElem? (i := 1416) (by decide +kernel)) (by decide +kernel)), (gIn (List.mem_of_getElem? (i := 1417) (by decide +kernel)) (by decide +kernel)), (gIn (List.mem_of_getElem? (i := 90) (by decide +kernel)) (by decide +kernel)), (gIn (List.mem_of_getElem? (i := 1418) (by decide +kernel)) (by decide +kernel)), rfl, ⟨by decide +kernel, by decide +kernel, by decide +kernel⟩⟩
set_option maxRecDepth 100000 in
theorem kJx7c733_22 : gLkV RJx7c733 22 1 M_J4_toString_0e30d 0 := ⟨TJ4, 4, rfl, (gIn (List.mem_of_getElem? (i := 1440) (by decide +kernel)) (by decide +kernel)), (gIn (List.mem_of_getElem? (i := 1441) (by decide +kernel)) (by decide +kernel)), (gIn (List.mem_of_getElem? (i := 1442) (by decide +kernel)) (by decide +kernel)), (gIn (List.mem_of_getElem? (i := 90) (by decide +kernel)) (by decide +kernel)), (gIn (List.mem_of_getElem? (i := 1443) (by decide +kernel)) (by decide +kernel)), rfl, ⟨by decide +kernel, by decide +kernel, by decide +kernel⟩⟩
set_option maxRecDepth 100000 in
theorem kJ1_9 : gLkS RJ1 9 M_J0_checkIndex_df160 2 := ⟨(gIn (List.mem_of_getElem? (i := 1654) (by decide +kernel)) (by decide +kernel)), (gIn (List.mem_of_getElem? (i := 1558) (by decide +kernel)) (by decide +kernel)), (gIn (List.mem_of_getElem? (i := 91) (by decide +kernel)) (by decide +kernel)), (gIn (List.mem_of_getElem? (i := 1559) (by decide +kernel)) (by decide +kernel)), rfl, ⟨by decide +kernel, by decide +kernel, by decide +kernel⟩⟩
set_option maxRecDepth 100000 in
theorem kJ1_236 : gLkS RJ1 236 M_J7_fill_eb02e 4 := ⟨(gIn (List.mem_of_getElem? (i := 1514) (by decide +kernel)) (by decide +kernel)), (gIn (List.mem_of_getElem? (i := 1515) (by decide +kernel)) (by decide +kernel)), (gIn (List.mem_of_getElem? (i := 99) (by decide +kernel)) (by decide +kernel)), (gIn (List.mem_of_getElem? (i := 1516) (by decide +kernel)) (by decide +kernel)), rfl, ⟨by decide +kernel, by decide +kernel, by decide +kernel⟩⟩
set_option maxRecDepth 100000 in
theorem kJ1_240 : gLkS RJ1 240 M_J2_inflate_0e8fd 5 := ⟨(gIn (List.mem_of_getElem? (i := 1397) (by decide +kernel)) (by decide +kernel)), (gIn (List.mem_of_getElem? (i := 1398) (by decide +kernel)) (by decide +kernel)), (gIn (List.mem_of_getElem? (i := 92) (by decide +kernel)) (by decide +kernel)), (gIn (List.mem_of_getElem? (i := 1399) (by decide +kernel)) (by decide +kernel)), rfl, ⟨by decide +kernel, by decide +kernel, by decide +kernel⟩⟩
set_option maxRecDepth 100000 in
theorem kJ2_11 : gLkS RJ2 11 M_J2_newBytesLength_0f7a4 1 := ⟨(gIn (List.mem_of_getElem? (i := 290) (by decide +kernel)) (by decide +kernel)), (gIn (List.mem_of_getElem? (i := 291) (by decide +kernel)) (by decide +kernel)), (gIn (List.mem_of_getElem? (i := 92) (by decide +kernel)) (by decide +kernel)), (gIn (List.mem_of_getElem? (i := 292) (by decide +kernel)) (by decide +kernel)), rfl, ⟨by decide +kernel, by decide +kernel, by decide +kernel⟩⟩
set_option maxRecDepth 100000 in
theorem kJ2_48 : gLkS RJ2 48 M_J2_length_9d52b 1 := ⟨(gIn (List.mem_of_getElem? (i := 1352) (by decide +kernel)) (by decide +kernel)), (gIn (List.mem_of_getElem? (i := 1353) (by decide +kernel)) (by decide +kernel)), (gIn (List.mem_of_getElem? (i := 92) (by decide +kernel)) (by decide +kernel)), (gIn (List.mem_of_getElem? (i := 1354) (by decide +kernel)) (by decide +kernel)), rfl, ⟨by decide +kernel, by decide +kernel, by decide +kernel⟩⟩
set_option maxRecDepth 100000 in
theorem kJ2_123 : gLkS RJ2 123 M_J2_compress_5af95 5 := ⟨(gIn (List.mem_of_getElem? (i := 1486) (by decide +kernel)) (by decide +kernel)), (gIn (List.mem_of_getElem? (i := 1487) (by decide +kernel)) (by decide +kernel)), (gIn (List.mem_of_getElem? (i := 92) (by decide +kernel)) (by decide +kernel)), (gIn (List.mem_of_getElem? (i := 1488) (by decide +kernel)) (by decide +kernel)), rfl, ⟨by decide +kernel, by decide +kernel, by decide +kernel⟩⟩
set_option maxRecDepth 100000 in
theorem kJ2_126 : gLkS RJ2 126 M_J7_copyOfRange_39247 3 := ⟨(gIn (List.mem_of_getElem? (i := 1492) (by decide +kernel)) (by decide +kernel)), (gIn (List.mem_of_getElem? (i := 1467) (by decide +kernel)) (by decide +kernel)), (gIn (List.mem_of_getElem? (i := 99) (by decide +kernel)) (by decide +kernel)), (gIn (List.mem_of_getElem? (i := 1468) (by decide +kernel)) (by decide +kernel)), rfl, ⟨by decide +kernel, by decide +kernel, by decide +kernel⟩⟩
set_option maxRecDepth 100000 in
theorem kJ2_71 : gLkS RJ2 71 M_J2_getChar_3b067 2 := ⟨(gIn (List.mem_of_getElem? (i := 1489) (by decide +kernel)) (by decide +kernel)), (gIn (List.mem_of_getElem? (i := 1490) (by decide +kernel)) (by decide +kernel)), (gIn (List.mem_of_getElem? (i := 92) (by decide +kernel)) (by decide +kernel)), (gIn (List.mem_of_getElem? (i := 1491) (by decide +kernel)) (by decide +kernel)), rfl, ⟨by decide +kernel, by decide +kernel, by decide +kernel⟩⟩
set_option maxRecDepth 100000 in
theorem kJ2_173 : gLkS RJ2 173 M_J2_checkBoundsOffCount_d044e 3 := ⟨(gIn (List.mem_of_getElem? (i := 1400) (by decide +kernel)) (by decide +kernel)), (gIn (List.mem_of_getElem? (i := 1401) (by decide +kernel)) (by decide +kernel)), (gIn (List.mem_of_getElem? (i := 92) (by decide +kernel)) (by decide +kernel)), (gIn (List.mem_of_getElem? (i := 1402) (by decide +kernel)) (by decide +kernel)), rfl, ⟨by decide +kernel, by decide +kernel, by decide +kernel⟩⟩
set_option maxRecDepth 100000 in
theorem kJ2_380 : gLkS RJ2 380 M_J7_fill_eb02e 4 := ⟨(gIn (List.mem_of_getElem? (i := 1536) (by decide +kernel)) (by decide +kernel)), (gIn (List.mem_of_getElem? (i := 1515) (by decide +kernel)) (by decide +kernel)), (gIn (List.mem_of_getElem? (i := 99) (by decide +kernel)) (by decide +kernel)), (gIn (List.mem_of_getElem? (i := 1516) (by decide +kernel)) (by decide +kernel)), rfl, ⟨by decide +kernel, by decide +kernel, by decide +kernel⟩⟩
set_option maxRecDepth 100000 in
theorem kJ2_67 : gLkS RJ2 67 M_J2_checkIndex_2214a 2 := ⟨(gIn (List.mem_of_getElem? (i := 1554) (by decide +kernel)) (by decide +kernel)), (gIn (List.mem_of_getElem? (i := 1555) (by decide +kernel)) (by decide +kernel)), (gIn (List.mem_of_getElem? (i := 92) (by decide +kernel)) (by decide +kernel)), (gIn (List.mem_of_getElem? (i := 1556) (by decide +kernel)) (by decide +kernel)), rfl, ⟨by decide +kernel, by decide +kernel, by decide +kernel⟩⟩
set_option maxRecDepth 100000 in
theorem kJ2_111 : gLkS RJ2 111 M_J2_putChar_b72d1 3 := ⟨(gIn (List.mem_of_getElem? (i := 1363) (by decide +kernel)) (by decide +kernel)), (gIn (List.mem_of_getElem? (i := 1364) (by decide +kernel)) (by decide +kernel)), (gIn (List.mem_of_getElem? (i := 92) (by decide +kernel)) (by decide +kernel)), (gIn (List.mem_of_getElem? (i := 1365) (by decide +kernel)) (by decide +kernel)), rfl, ⟨by decide +kernel, by decide +kernel, by decide +kernel⟩⟩
set_option maxRecDepth 100000 in
theorem kJ2_96 : gLkS RJ2 96 M_J2_checkBoundsBeginEnd_d044e 3 := ⟨(gIn (List.mem_of_getElem? (i := 1349) (by decide +kernel)) (by decide +kernel)), (gIn (List.mem_of_getElem? (i := 1350) (by decide +kernel)) (by decide +kernel)), (gIn (List.mem_of_getElem? (i := 92) (by decide +kernel)) (by decide +kernel)), (gIn (List.mem_of_getElem? (i := 1351) (by decide +kernel)) (by decide +kernel)), rfl, ⟨by decide +kernel, by decide +kernel, by decide +kernel⟩⟩
set_option maxRecDepth 100000 in
theorem kJ2_393 : gLkS RJ2 393 M_J2_getChars_ba4f3 3 := ⟨(gIn (List.mem_of_getElem? (i := 1435) (by decide +kernel)) (by decide +kernel)), (gIn (List.mem_of_getElem? (i := 1436) (by decide +kernel)) (by decide +kernel)), (gIn (List.mem_of_getElem? (i := 92) (by decide +kernel)) (by decide +kernel)), (gIn (List.mem_of_getElem? (i := 1437) (by decide +kernel)) (by decide +kernel)), rfl, ⟨by decide +kernel, by decide +kernel, by decide +kernel⟩⟩
set_option maxRecDepth 100000 in
theorem kJ2_414 : gLkS RJ2 414 M_J0_checkIndex_df160 2 := ⟨(gIn (List.mem_of_getElem? (i := 1557) (by decide +kernel)) (by decide +kernel)), (gIn (List.mem_of_getElem? (i := 1558) (by decide +kernel)) (by decide +kernel)), (gIn (List.mem_of_getElem? (i := 91) (by decide +kernel)) (by decide +kernel)), (gIn (List.mem_of_getElem? (i := 1559) (by decide +kernel)) (by decide +kernel)), rfl, ⟨by decide +kernel, by decide +kernel, by decide +kernel⟩⟩
set_option maxRecDepth 100000 in
theorem kJ2_241 : gLkS RJ2 241 M_J0_checkBoundsBeginEnd_23922 3 := ⟨(gIn (List.mem_of_getElem? (i := 1355) (by decide +kernel)) (by decide +kernel)), (gIn (List.mem_of_getElem? (i := 1356) (by decide +kernel)) (by decide +kernel)), (gIn (List.mem_of_getElem? (i := 91) (by decide +kernel)) (by decide +kernel)), (gIn (List.mem_of_getElem? (i := 1357) (by decide +kernel)) (by decide +kernel)), rfl, ⟨by decide +kernel, by decide +kernel, by decide +kernel⟩⟩
set_option maxRecDepth 100000 in
theorem kJ2_419 : gLkS RJ2 419 M_J0_checkBoundsOffCount_cabcc 3 := ⟨(gIn (List.mem_of_getElem? (i := 1403) (by decide +kernel)) (by decide +kernel)), (gIn (List.mem_of_getElem? (i := 1404) (by decide +kernel)) (by decide +kernel)), (gIn (List.mem_of_getElem? (i := 91) (by decide +kernel)) (by decide +kernel)), (gIn (List.mem_of_getElem? (i := 1405) (by decide +kernel)) (by decide +kernel)), rfl, ⟨by decide +kernel, by decide +kernel, by decide +kernel⟩⟩
set_option maxRecDepth 100000 in
theorem kJxc12de_1 : gLkI RJxc12de 1 M_Jxa1e45_init_da8c8 0 := ⟨(gIn (List.mem_of_getElem? (i := 141) (by decide +kernel)) (by decide +kernel)), rfl, rfl, (gIn (List.mem_of_getElem? (i := 142) (by decide +kernel)) (by decide +kernel)), (gIn (List.mem_of_getElem? (i := 83) (by decide +kernel)) (by decide +kernel)), (gIn (List.mem_of_getElem? (i := 143) (by decide +kernel)) (by decide +kernel)), rfl, ⟨by decide +kernel, by decide +kernel, by decide +kernel⟩⟩
set_option maxRecDepth 100000 in
theorem fJxc12de_7 : gFld RJxc12de 7 4 0 (.int) false := ⟨_, "java/util/AbstractList", TJx4a65c, 3, tyJx4a65c, rfl, by decide, inGJx4a65c, (gIn (List.mem_of_getElem? (i := 149) (by decide +kernel)) (by decide +kernel)), Or.inl rfl, tyJx4a65c_ok, nmJx4a65c, rfl, rfl⟩
set_option maxRecDepth 100000 in
theorem kJx4a65c_1 : gLkI RJx4a65c 1 M_Jxc12de_init_da8c8 0 := ⟨(gIn (List.mem_of_getElem? (i := 138) (by decide +kernel)) (by decide +kernel)), rfl, rfl, (gIn (List.mem_of_getElem? (i := 139) (by decide +kernel)) (by decide +kernel)), (gIn (List.mem_of_getElem? (i := 84) (by decide +kernel)) (by decide +kernel)), (gIn (List.mem_of_getElem? (i := 140) (by decide +kernel)) (by decide +kernel)), rfl, ⟨by decide +kernel, by decide +kernel, by decide +kernel⟩⟩
set_option maxRecDepth 100000 in
theorem fJx4a65c_9 : gFld RJx4a65c 9 4 1 (.array (.object "java/lang/Object")) false := ⟨_, "java/util/ArrayList", TJx4a65c, 3, tyJx4a65c, rfl, by decide, inGJx4a65c, (gIn (List.mem_of_getElem? (i := 147) (by decide +kernel)) (by decide +kernel)), Or.inl rfl, tyJx4a65c_ok, nmJx4a65c, rfl, rfl⟩
set_option maxRecDepth 100000 in
theorem kJx4a65c_73 : gLkS RJx4a65c 73 M_J8_newLength_cabcc 3 := ⟨(gIn (List.mem_of_getElem? (i := 428) (by decide +kernel)) (by decide +kernel)), (gIn (List.mem_of_getElem? (i := 429) (by decide +kernel)) (by decide +kernel)), (gIn (List.mem_of_getElem? (i := 97) (by decide +kernel)) (by decide +kernel)), (gIn (List.mem_of_getElem? (i := 430) (by decide +kernel)) (by decide +kernel)), rfl, ⟨by decide +kernel, by decide +kernel, by decide +kernel⟩⟩
set_option maxRecDepth 100000 in
theorem kJx4a65c_66 : gLkS RJx4a65c 66 M_J7_copyOf_1904c 2 := ⟨(gIn (List.mem_of_getElem? (i := 438) (by decide +kernel)) (by decide +kernel)), (gIn (List.mem_of_getElem? (i := 439) (by decide +kernel)) (by decide +kernel)), (gIn (List.mem_of_getElem? (i := 99) (by decide +kernel)) (by decide +kernel)), (gIn (List.mem_of_getElem? (i := 440) (by decide +kernel)) (by decide +kernel)), rfl, ⟨by decide +kernel, by decide +kernel, by decide +kernel⟩⟩
set_option maxRecDepth 100000 in
theorem kJx4a65c_79 : gLkS RJx4a65c 79 M_J9_max_7cf53 2 := ⟨(gIn (List.mem_of_getElem? (i := 477) (by decide +kernel)) (by decide +kernel)), (gIn (List.mem_of_getElem? (i := 432) (by decide +kernel)) (by decide +kernel)), (gIn (List.mem_of_getElem? (i := 98) (by decide +kernel)) (by decide +kernel)), (gIn (List.mem_of_getElem? (i := 433) (by decide +kernel)) (by decide +kernel)), rfl, ⟨by decide +kernel, by decide +kernel, by decide +kernel⟩⟩
set_option maxRecDepth 100000 in
theorem fJx4a65c_48 : gFld RJx4a65c 48 4 2 (.int) false := ⟨_, "java/util/ArrayList", TJx4a65c, 3, tyJx4a65c, rfl, by decide, inGJx4a65c, (gIn (List.mem_of_getElem? (i := 148) (by decide +kernel)) (by decide +kernel)), Or.inl rfl, tyJx4a65c_ok, nmJx4a65c, rfl, rfl⟩
set_option maxRecDepth 100000 in
theorem kJx4a65c_69 : gLkV RJx4a65c 69 4 M_Jx4a65c_grow_92f84 1 := ⟨TJx4a65c, 3, rfl, (gIn (List.mem_of_getElem? (i := 424) (by decide +kernel)) (by decide +kernel)), (gIn (List.mem_of_getElem? (i := 426) (by decide +kernel)) (by decide +kernel)), (gIn (List.mem_of_getElem? (i := 2) (by decide +kernel)) (by decide +kernel)), (gIn (List.mem_of_getElem? (i := 85) (by decide +kernel)) (by decide +kernel)), (gIn (List.mem_of_getElem? (i := 427) (by decide +kernel)) (by decide +kernel)), rfl, ⟨by decide +kernel, by decide +kernel, by decide +kernel⟩⟩
set_option maxRecDepth 100000 in
theorem kJx4a65c_118 : gLkS RJx4a65c 118 M_J15_checkIndex_7cf53 2 := ⟨(gIn (List.mem_of_getElem? (i := 356) (by decide +kernel)) (by decide +kernel)), (gIn (List.mem_of_getElem? (i := 357) (by decide +kernel)) (by decide +kernel)), (gIn (List.mem_of_getElem? (i := 94) (by decide +kernel)) (by decide +kernel)), (gIn (List.mem_of_getElem? (i := 358) (by decide +kernel)) (by decide +kernel)), rfl, ⟨by decide +kernel, by decide +kernel, by decide +kernel⟩⟩
set_option maxRecDepth 100000 in
theorem kJx4a65c_123 : gLkV RJx4a65c 123 4 M_Jx4a65c_elementData_915e3 1 := ⟨TJx4a65c, 3, rfl, (gIn (List.mem_of_getElem? (i := 362) (by decide +kernel)) (by decide +kernel)), (gIn (List.mem_of_getElem? (i := 363) (by decide +kernel)) (by decide +kernel)), (gIn (List.mem_of_getElem? (i := 364) (by decide +kernel)) (by decide +kernel)), (gIn (List.mem_of_getElem? (i := 85) (by decide +kernel)) (by decide +kernel)), (gIn (List.mem_of_getElem? (i := 365) (by decide +kernel)) (by decide +kernel)), rfl, ⟨by decide +kernel, by decide +kernel, by decide +kernel⟩⟩
set_option maxRecDepth 100000 in
theorem kJx4a65c_129 : gLkV RJx4a65c 129 4 M_Jx4a65c_grow_d5877 0 := ⟨TJx4a65c, 3, rfl, (gIn (List.mem_of_getElem? (i := 420) (by decide +kernel)) (by decide +kernel)), (gIn (List.mem_of_getElem? (i := 422) (by decide +kernel)) (by decide +kernel)), (gIn (List.mem_of_getElem? (i := 1) (by decide +kernel)) (by decide +kernel)), (gIn (List.mem_of_getElem? (i := 85) (by decide +kernel)) (by decide +kernel)), (gIn (List.mem_of_getElem? (i := 423) (by decide +kernel)) (by decide +kernel)), rfl, ⟨by decide +kernel, by decide +kernel, by decide +kernel⟩⟩
set_option maxRecDepth 100000 in
theorem fJx4a65c_63 : gFld RJx4a65c 63 4 0 (.int) false := ⟨_, "java/util/ArrayList", TJx4a65c, 3, tyJx4a65c, rfl, by decide, inGJx4a65c, (gIn (List.mem_of_getElem? (i := 150) (by decide +kernel)) (by decide +kernel)), Or.inr (gIn (List.mem_of_getElem? (i := 151) (by decide +kernel)) (by decide +kernel)), tyJx4a65c_ok, nmJx4a65c, rfl, rfl⟩
set_option maxRecDepth 100000 in
theorem kJx4a65c_131 : gLkV RJx4a65c 131 4 M_Jx4a65c_add_72be8 3 := ⟨TJx4a65c, 3, rfl, (gIn (List.mem_of_getElem? (i := 416) (by decide +kernel)) (by decide +kernel)), (gIn (List.mem_of_getElem? (i := 418) (by decide +kernel)) (by decide +kernel)), (gIn (List.mem_of_getElem? (i := 0) (by decide +kernel)) (by decide +kernel)), (gIn (List.mem_of_getElem? (i := 85) (by decide +kernel)) (by decide +kernel)), (gIn (List.mem_of_getElem? (i := 419) (by decide +kernel)) (by decide +kernel)), rfl, ⟨by decide +kernel, by decide +kernel, by decide +kernel⟩⟩
set_option maxRecDepth 100000 in
theorem kJx4a65c_144 : gLkV RJx4a65c 144 4 M_Jx4a65c_fastRemove_b59b0 2 := ⟨TJx4a65c, 3, rfl, (gIn (List.mem_of_getElem? (i := 676) (by decide +kernel)) (by decide +kernel)), (gIn (List.mem_of_getElem? (i := 678) (by decide +kernel)) (by decide +kernel)), (gIn (List.mem_of_getElem? (i := 12) (by decide +kernel)) (by decide +kernel)), (gIn (List.mem_of_getElem? (i := 85) (by decide +kernel)) (by decide +kernel)), (gIn (List.mem_of_getElem? (i := 679) (by decide +kernel)) (by decide +kernel)), rfl, ⟨by decide +kernel, by decide +kernel, by decide +kernel⟩⟩
set_option maxRecDepth 100000 in
theorem kJ7_47 : gLkI RJ7 47 M_J4_init_da8c8 0 := ⟨(gIn (List.mem_of_getElem? (i := 1477) (by decide +kernel)) (by decide +kernel)), rfl, rfl, (gIn (List.mem_of_getElem? (i := 279) (by decide +kernel)) (by decide +kernel)), (gIn (List.mem_of_getElem? (i := 90) (by decide +kernel)) (by decide +kernel)), (gIn (List.mem_of_getElem? (i := 280) (by decide +kernel)) (by decide +kernel)), rfl, ⟨by decide +kernel, by decide +kernel, by decide +kernel⟩⟩
set_option maxRecDepth 100000 in
theorem kJ7_50 : gLkV RJ7 50 1 M_J4_append_15ec4 1 := ⟨TJ4, 4, rfl, (gIn (List.mem_of_getElem? (i := 1480) (by decide +kernel)) (by decide +kernel)), (gIn (List.mem_of_getElem? (i := 1311) (by decide +kernel)) (by decide +kernel)), (gIn (List.mem_of_getElem? (i := 1312) (by decide +kernel)) (by decide +kernel)), (gIn (List.mem_of_getElem? (i := 90) (by decide +kernel)) (by decide +kernel)), (gIn (List.mem_of_getElem? (i := 1313) (by decide +kernel)) (by decide +kernel)), rfl, ⟨by decide +kernel, by decide +kernel, by decide +kernel⟩⟩
set_option maxRecDepth 100000 in
theorem kJ7_54 : gLkV RJ7 54 1 M_J4_append_bf812 1 := ⟨TJ4, 4, rfl, (gIn (List.mem_of_getElem? (i := 1478) (by decide +kernel)) (by decide +kernel)), (gIn (List.mem_of_getElem? (i := 1416) (by decide +kernel)) (by decide +kernel)), (gIn (List.mem_of_getElem? (i := 1417) (by decide +kernel)) (by decide +kernel)), (gIn (List.mem_of_getElem? (i := 90) (by decide +kernel)) (by decide +kernel)), (gIn (List.mem_of_getElem? (i := 1418) (by decide +kernel)) (by decide +kernel)), rfl, ⟨by decide +kernel, by decide +kernel, by decide +kernel⟩⟩
set_option maxRecDepth 100000 in
theorem kJ7_61 : gLkV RJ7 61 1 M_J4_toString_0e30d 0 := ⟨TJ4, 4, rfl, (gIn (List.mem_of_getElem? (i := 1481) (by decide +kernel)) (by decide +kernel)), (gIn (List.mem_of_getElem? (i := 1441) (by decide +kernel)) (by decide +kernel)), (gIn (List.mem_of_getElem? (i := 1442) (by decide +kernel)) (by decide +kernel)), (gIn (List.mem_of_getElem? (i := 90) (by decide +kernel)) (by decide +kernel)), (gIn (List.mem_of_getElem? (i := 1443) (by decide +kernel)) (by decide +kernel)), rfl, ⟨by decide +kernel, by decide +kernel, by decide +kernel⟩⟩
set_option maxRecDepth 100000 in
theorem kJ7_70 : gLkI RJ7 70 M_Jx00060_init_d00df 1 := ⟨(gIn (List.mem_of_getElem? (i := 1524) (by decide +kernel)) (by decide +kernel)), rfl, rfl, (gIn (List.mem_of_getElem? (i := 1525) (by decide +kernel)) (by decide +kernel)), (gIn (List.mem_of_getElem? (i := 108) (by decide +kernel)) (by decide +kernel)), (gIn (List.mem_of_getElem? (i := 1526) (by decide +kernel)) (by decide +kernel)), rfl, ⟨by decide +kernel, by decide +kernel, by decide +kernel⟩⟩
set_option maxRecDepth 100000 in
theorem kJ7_13 : gLkS RJ7 13 M_J7_rangeCheck_23922 3 := ⟨(gIn (List.mem_of_getElem? (i := 1517) (by decide +kernel)) (by decide +kernel)), (gIn (List.mem_of_getElem? (i := 1518) (by decide +kernel)) (by decide +kernel)), (gIn (List.mem_of_getElem? (i := 99) (by decide +kernel)) (by decide +kernel)), (gIn (List.mem_of_getElem? (i := 1519) (by decide +kernel)) (by decide +kernel)), rfl, ⟨by decide +kernel, by decide +kernel, by decide +kernel⟩⟩
set_option maxRecDepth 100000 in
theorem kJ7_300 : gLkS RJ7 300 M_J7_copyOf_6403c 3 := ⟨(gIn (List.mem_of_getElem? (i := 465) (by decide +kernel)) (by decide +kernel)), (gIn (List.mem_of_getElem? (i := 466) (by decide +kernel)) (by decide +kernel)), (gIn (List.mem_of_getElem? (i := 99) (by decide +kernel)) (by decide +kernel)), (gIn (List.mem_of_getElem? (i := 467) (by decide +kernel)) (by decide +kernel)), rfl, ⟨by decide +kernel, by decide +kernel, by decide +kernel⟩⟩
set_option maxRecDepth 100000 in
theorem kJ7_304 : gLkS RJ7 304 M_J9_min_7cf53 2 := ⟨(gIn (List.mem_of_getElem? (i := 471) (by decide +kernel)) (by decide +kernel)), (gIn (List.mem_of_getElem? (i := 472) (by decide +kernel)) (by decide +kernel)), (gIn (List.mem_of_getElem? (i := 98) (by decide +kernel)) (by decide +kernel)), (gIn (List.mem_of_getElem? (i := 473) (by decide +kernel)) (by decide +kernel)), rfl, ⟨by decide +kernel, by decide +kernel, by decide +kernel⟩⟩
set_option maxRecDepth 100000 in
theorem kJ7_339 : gLkS RJ7 339 M_J7_copyOfRangeByte_39247 3 := ⟨(gIn (List.mem_of_getElem? (i := 1469) (by decide +kernel)) (by decide +kernel)), (gIn (List.mem_of_getElem? (i := 1470) (by decide +kernel)) (by decide +kernel)), (gIn (List.mem_of_getElem? (i := 99) (by decide +kernel)) (by decide +kernel)), (gIn (List.mem_of_getElem? (i := 1471) (by decide +kernel)) (by decide +kernel)), rfl, ⟨by decide +kernel, by decide +kernel, by decide +kernel⟩⟩
set_option maxRecDepth 100000 in
theorem kJ7_343 : gLkS RJ7 343 M_J7_checkLength_df160 2 := ⟨(gIn (List.mem_of_getElem? (i := 1472) (by decide +kernel)) (by decide +kernel)), (gIn (List.mem_of_getElem? (i := 1473) (by decide +kernel)) (by decide +kernel)), (gIn (List.mem_of_getElem? (i := 99) (by decide +kernel)) (by decide +kernel)), (gIn (List.mem_of_getElem? (i := 1474) (by decide +kernel)) (by decide +kernel)), rfl, ⟨by decide +kernel, by decide +kernel, by decide +kernel⟩⟩
set_option maxRecDepth 100000 in
theorem kJ15_105 : gLkS RJ15 105 M_J3_checkIndex_8e157 3 := ⟨(gIn (List.mem_of_getElem? (i := 359) (by decide +kernel)) (by decide +kernel)), (gIn (List.mem_of_getElem? (i := 360) (by decide +kernel)) (by decide +kernel)), (gIn (List.mem_of_getElem? (i := 95) (by decide +kernel)) (by decide +kernel)), (gIn (List.mem_of_getElem? (i := 361) (by decide +kernel)) (by decide +kernel)), rfl, ⟨by decide +kernel, by decide +kernel, by decide +kernel⟩⟩
set_option maxRecDepth 100000 in
theorem kJ8_194 : gLkS RJ8 194 M_J9_max_7cf53 2 := ⟨(gIn (List.mem_of_getElem? (i := 431) (by decide +kernel)) (by decide +kernel)), (gIn (List.mem_of_getElem? (i := 432) (by decide +kernel)) (by decide +kernel)), (gIn (List.mem_of_getElem? (i := 98) (by decide +kernel)) (by decide +kernel)), (gIn (List.mem_of_getElem? (i := 433) (by decide +kernel)) (by decide +kernel)), rfl, ⟨by decide +kernel, by decide +kernel, by decide +kernel⟩⟩
set_option maxRecDepth 100000 in
theorem kJ8_201 : gLkS RJ8 201 M_J8_hugeLength_7cf53 2 := ⟨(gIn (List.mem_of_getElem? (i := 435) (by decide +kernel)) (by decide +kernel)), (gIn (List.mem_of_getElem? (i := 436) (by decide +kernel)) (by decide +kernel)), (gIn (List.mem_of_getElem? (i := 97) (by decide +kernel)) (by decide +kernel)), (gIn (List.mem_of_getElem? (i := 437) (by decide +kernel)) (by decide +kernel)), rfl, ⟨by decide +kernel, by decide +kernel, by decide +kernel⟩⟩
set_option maxRecDepth 100000 in
theorem kL_7 : gLkV RL 7 12 M_X9_accept 3 := ⟨TX9, 9, rfl, (gIn (List.mem_of_getElem? (i := 819) (by decide +kernel)) (by decide +kernel)), (gIn (List.mem_of_getElem? (i := 820) (by decide +kernel)) (by decide +kernel)), (gIn (List.mem_of_getElem? (i := 821) (by decide +kernel)) (by decide +kernel)), (gIn (List.mem_of_getElem? (i := 81) (by decide +kernel)) (by decide +kernel)), (gIn (List.mem_of_getElem? (i := 822) (by decide +kernel)) (by decide +kernel)), rfl, ⟨by decide +kernel, by decide +kernel, by decide +kernel⟩⟩
set_option maxRecDepth 100000 in
theorem kL_17 : gLkV RL 17 12 M_X9_addPrefix 3 := ⟨TX9, 9, rfl, (gIn (List.mem_of_getElem? (i := 855) (by decide +kernel)) (by decide +kernel)), (gIn (List.mem_of_getElem? (i := 856) (by decide +kernel)) (by decide +kernel)), (gIn (List.mem_of_getElem? (i := 857) (by decide +kernel)) (by decide +kernel)), (gIn (List.mem_of_getElem? (i := 81) (by decide +kernel)) (by decide +kernel)), (gIn (List.mem_of_getElem? (i := 858) (by decide +kernel)) (by decide +kernel)), rfl, ⟨by decide +kernel, by decide +kernel, by decide +kernel⟩⟩
set_option maxRecDepth 100000 in
theorem kL_23 : gLkV RL 23 12 M_X9_removePrefix 2 := ⟨TX9, 9, rfl, (gIn (List.mem_of_getElem? (i := 876) (by decide +kernel)) (by decide +kernel)), (gIn (List.mem_of_getElem? (i := 877) (by decide +kernel)) (by decide +kernel)), (gIn (List.mem_of_getElem? (i := 878) (by decide +kernel)) (by decide +kernel)), (gIn (List.mem_of_getElem? (i := 81) (by decide +kernel)) (by decide +kernel)), (gIn (List.mem_of_getElem? (i := 879) (by decide +kernel)) (by decide +kernel)), rfl, ⟨by decide +kernel, by decide +kernel, by decide +kernel⟩⟩
set_option maxRecDepth 100000 in
theorem kL_29 : gLkV RL 29 12 M_X9_sort 1 := ⟨TX9, 9, rfl, (gIn (List.mem_of_getElem? (i := 888) (by decide +kernel)) (by decide +kernel)), (gIn (List.mem_of_getElem? (i := 889) (by decide +kernel)) (by decide +kernel)), (gIn (List.mem_of_getElem? (i := 890) (by decide +kernel)) (by decide +kernel)), (gIn (List.mem_of_getElem? (i := 81) (by decide +kernel)) (by decide +kernel)), (gIn (List.mem_of_getElem? (i := 891) (by decide +kernel)) (by decide +kernel)), rfl, ⟨by decide +kernel, by decide +kernel, by decide +kernel⟩⟩
set_option maxRecDepth 100000 in
theorem kL_33 : gLkV RL 33 12 M_X9_place 2 := ⟨TX9, 9, rfl, (gIn (List.mem_of_getElem? (i := 900) (by decide +kernel)) (by decide +kernel)), (gIn (List.mem_of_getElem? (i := 901) (by decide +kernel)) (by decide +kernel)), (gIn (List.mem_of_getElem? (i := 902) (by decide +kernel)) (by decide +kernel)), (gIn (List.mem_of_getElem? (i := 81) (by decide +kernel)) (by decide +kernel)), (gIn (List.mem_of_getElem? (i := 903) (by decide +kernel)) (by decide +kernel)), rfl, ⟨by decide +kernel, by decide +kernel, by decide +kernel⟩⟩
set_option maxRecDepth 100000 in
theorem kL_36 : gLkV RL 36 12 M_X9_pull 1 := ⟨TX9, 9, rfl, (gIn (List.mem_of_getElem? (i := 911) (by decide +kernel)) (by decide +kernel)), (gIn (List.mem_of_getElem? (i := 912) (by decide +kernel)) (by decide +kernel)), (gIn (List.mem_of_getElem? (i := 913) (by decide +kernel)) (by decide +kernel)), (gIn (List.mem_of_getElem? (i := 81) (by decide +kernel)) (by decide +kernel)), (gIn (List.mem_of_getElem? (i := 914) (by decide +kernel)) (by decide +kernel)), rfl, ⟨by decide +kernel, by decide +kernel, by decide +kernel⟩⟩
set_option maxRecDepth 100000 in
theorem kL_39 : gLkV RL 39 12 M_X9_setCutoff 2 := ⟨TX9, 9, rfl, (gIn (List.mem_of_getElem? (i := 926) (by decide +kernel)) (by decide +kernel)), (gIn (List.mem_of_getElem? (i := 927) (by decide +kernel)) (by decide +kernel)), (gIn (List.mem_of_getElem? (i := 928) (by decide +kernel)) (by decide +kernel)), (gIn (List.mem_of_getElem? (i := 81) (by decide +kernel)) (by decide +kernel)), (gIn (List.mem_of_getElem? (i := 929) (by decide +kernel)) (by decide +kernel)), rfl, ⟨by decide +kernel, by decide +kernel, by decide +kernel⟩⟩
set_option maxRecDepth 100000 in
theorem kL_42 : gLkV RL 42 12 M_X9_setDeparture 2 := ⟨TX9, 9, rfl, (gIn (List.mem_of_getElem? (i := 937) (by decide +kernel)) (by decide +kernel)), (gIn (List.mem_of_getElem? (i := 938) (by decide +kernel)) (by decide +kernel)), (gIn (List.mem_of_getElem? (i := 939) (by decide +kernel)) (by decide +kernel)), (gIn (List.mem_of_getElem? (i := 81) (by decide +kernel)) (by decide +kernel)), (gIn (List.mem_of_getElem? (i := 940) (by decide +kernel)) (by decide +kernel)), rfl, ⟨by decide +kernel, by decide +kernel, by decide +kernel⟩⟩
set_option maxRecDepth 100000 in
theorem kL_45 : gLkV RL 45 12 M_X9_pass 1 := ⟨TX9, 9, rfl, (gIn (List.mem_of_getElem? (i := 948) (by decide +kernel)) (by decide +kernel)), (gIn (List.mem_of_getElem? (i := 949) (by decide +kernel)) (by decide +kernel)), (gIn (List.mem_of_getElem? (i := 950) (by decide +kernel)) (by decide +kernel)), (gIn (List.mem_of_getElem? (i := 81) (by decide +kernel)) (by decide +kernel)), (gIn (List.mem_of_getElem? (i := 951) (by decide +kernel)) (by decide +kernel)), rfl, ⟨by decide +kernel, by decide +kernel, by decide +kernel⟩⟩
set_option maxRecDepth 100000 in
theorem kL_48 : gLkV RL 48 12 M_X9_idAt 1 := ⟨TX9, 9, rfl, (gIn (List.mem_of_getElem? (i := 973) (by decide +kernel)) (by decide +kernel)), (gIn (List.mem_of_getElem? (i := 974) (by decide +kernel)) (by decide +kernel)), (gIn (List.mem_of_getElem? (i := 975) (by decide +kernel)) (by decide +kernel)), (gIn (List.mem_of_getElem? (i := 81) (by decide +kernel)) (by decide +kernel)), (gIn (List.mem_of_getElem? (i := 976) (by decide +kernel)) (by decide +kernel)), rfl, ⟨by decide +kernel, by decide +kernel, by decide +kernel⟩⟩
set_option maxRecDepth 100000 in
theorem kL_51 : gLkV RL 51 12 M_X9_codeOf 1 := ⟨TX9, 9, rfl, (gIn (List.mem_of_getElem? (i := 983) (by decide +kernel)) (by decide +kernel)), (gIn (List.mem_of_getElem? (i := 984) (by decide +kernel)) (by decide +kernel)), (gIn (List.mem_of_getElem? (i := 985) (by decide +kernel)) (by decide +kernel)), (gIn (List.mem_of_getElem? (i := 81) (by decide +kernel)) (by decide +kernel)), (gIn (List.mem_of_getElem? (i := 986) (by decide +kernel)) (by decide +kernel)), rfl, ⟨by decide +kernel, by decide +kernel, by decide +kernel⟩⟩
set_option maxRecDepth 100000 in
theorem kL_54 : gLkV RL 54 12 M_X9_weightOf 1 := ⟨TX9, 9, rfl, (gIn (List.mem_of_getElem? (i := 995) (by decide +kernel)) (by decide +kernel)), (gIn (List.mem_of_getElem? (i := 996) (by decide +kernel)) (by decide +kernel)), (gIn (List.mem_of_getElem? (i := 997) (by decide +kernel)) (by decide +kernel)), (gIn (List.mem_of_getElem? (i := 81) (by decide +kernel)) (by decide +kernel)), (gIn (List.mem_of_getElem? (i := 998) (by decide +kernel)) (by decide +kernel)), rfl, ⟨by decide +kernel, by decide +kernel, by decide +kernel⟩⟩
set_option maxRecDepth 100000 in
theorem kL_57 : gLkV RL 57 12 M_X9_isPriority 1 := ⟨TX9, 9, rfl, (gIn (List.mem_of_getElem? (i := 1002) (by decide +kernel)) (by decide +kernel)), (gIn (List.mem_of_getElem? (i := 1003) (by decide +kernel)) (by decide +kernel)), (gIn (List.mem_of_getElem? (i := 1004) (by decide +kernel)) (by decide +kernel)), (gIn (List.mem_of_getElem? (i := 81) (by decide +kernel)) (by decide +kernel)), (gIn (List.mem_of_getElem? (i := 1005) (by decide +kernel)) (by decide +kernel)), rfl, ⟨by decide +kernel, by decide +kernel, by decide +kernel⟩⟩
set_option maxRecDepth 100000 in
theorem kL_61 : gLkV RL 61 12 M_X9_returnsOf 1 := ⟨TX9, 9, rfl, (gIn (List.mem_of_getElem? (i := 1009) (by decide +kernel)) (by decide +kernel)), (gIn (List.mem_of_getElem? (i := 1010) (by decide +kernel)) (by decide +kernel)), (gIn (List.mem_of_getElem? (i := 1011) (by decide +kernel)) (by decide +kernel)), (gIn (List.mem_of_getElem? (i := 81) (by decide +kernel)) (by decide +kernel)), (gIn (List.mem_of_getElem? (i := 1012) (by decide +kernel)) (by decide +kernel)), rfl, ⟨by decide +kernel, by decide +kernel, by decide +kernel⟩⟩
set_option maxRecDepth 100000 in
theorem kL_64 : gLkV RL 64 12 M_X9_isInTray 1 := ⟨TX9, 9, rfl, (gIn (List.mem_of_getElem? (i := 1016) (by decide +kernel)) (by decide +kernel)), (gIn (List.mem_of_getElem? (i := 1017) (by decide +kernel)) (by decide +kernel)), (gIn (List.mem_of_getElem? (i := 1018) (by decide +kernel)) (by decide +kernel)), (gIn (List.mem_of_getElem? (i := 81) (by decide +kernel)) (by decide +kernel)), (gIn (List.mem_of_getElem? (i := 1019) (by decide +kernel)) (by decide +kernel)), rfl, ⟨by decide +kernel, by decide +kernel, by decide +kernel⟩⟩
set_option maxRecDepth 100000 in
theorem kL_67 : gLkV RL 67 12 M_X9_routeOfBag 1 := ⟨TX9, 9, rfl, (gIn (List.mem_of_getElem? (i := 1024) (by decide +kernel)) (by decide +kernel)), (gIn (List.mem_of_getElem? (i := 1025) (by decide +kernel)) (by decide +kernel)), (gIn (List.mem_of_getElem? (i := 1026) (by decide +kernel)) (by decide +kernel)), (gIn (List.mem_of_getElem? (i := 81) (by decide +kernel)) (by decide +kernel)), (gIn (List.mem_of_getElem? (i := 1027) (by decide +kernel)) (by decide +kernel)), rfl, ⟨by decide +kernel, by decide +kernel, by decide +kernel⟩⟩
set_option maxRecDepth 100000 in
theorem kL_70 : gLkV RL 70 12 M_X9_bagOf 1 := ⟨TX9, 9, rfl, (gIn (List.mem_of_getElem? (i := 1036) (by decide +kernel)) (by decide +kernel)), (gIn (List.mem_of_getElem? (i := 1037) (by decide +kernel)) (by decide +kernel)), (gIn (List.mem_of_getElem? (i := 1038) (by decide +kernel)) (by decide +kernel)), (gIn (List.mem_of_getElem? (i := 81) (by decide +kernel)) (by decide +kernel)), (gIn (List.mem_of_getElem? (i := 1039) (by decide +kernel)) (by decide +kernel)), rfl, ⟨by decide +kernel, by decide +kernel, by decide +kernel⟩⟩
set_option maxRecDepth 100000 in
theorem kL_73 : gLkV RL 73 12 M_X9_isMissorted 1 := ⟨TX9, 9, rfl, (gIn (List.mem_of_getElem? (i := 1043) (by decide +kernel)) (by decide +kernel)), (gIn (List.mem_of_getElem? (i := 1044) (by decide +kernel)) (by decide +kernel)), (gIn (List.mem_of_getElem? (i := 1045) (by decide +kernel)) (by decide +kernel)), (gIn (List.mem_of_getElem? (i := 81) (by decide +kernel)) (by decide +kernel)), (gIn (List.mem_of_getElem? (i := 1046) (by decide +kernel)) (by decide +kernel)), rfl, ⟨by decide +kernel, by decide +kernel, by decide +kernel⟩⟩
set_option maxRecDepth 100000 in
theorem kL_76 : gLkV RL 76 12 M_X9_canSort 1 := ⟨TX9, 9, rfl, (gIn (List.mem_of_getElem? (i := 1051) (by decide +kernel)) (by decide +kernel)), (gIn (List.mem_of_getElem? (i := 1052) (by decide +kernel)) (by decide +kernel)), (gIn (List.mem_of_getElem? (i := 1053) (by decide +kernel)) (by decide +kernel)), (gIn (List.mem_of_getElem? (i := 81) (by decide +kernel)) (by decide +kernel)), (gIn (List.mem_of_getElem? (i := 1054) (by decide +kernel)) (by decide +kernel)), rfl, ⟨by decide +kernel, by decide +kernel, by decide +kernel⟩⟩
set_option maxRecDepth 100000 in
theorem kL_79 : gLkV RL 79 12 M_X9_trayAt 1 := ⟨TX9, 9, rfl, (gIn (List.mem_of_getElem? (i := 1062) (by decide +kernel)) (by decide +kernel)), (gIn (List.mem_of_getElem? (i := 1063) (by decide +kernel)) (by decide +kernel)), (gIn (List.mem_of_getElem? (i := 1064) (by decide +kernel)) (by decide +kernel)), (gIn (List.mem_of_getElem? (i := 81) (by decide +kernel)) (by decide +kernel)), (gIn (List.mem_of_getElem? (i := 1065) (by decide +kernel)) (by decide +kernel)), rfl, ⟨by decide +kernel, by decide +kernel, by decide +kernel⟩⟩
set_option maxRecDepth 100000 in
theorem kL_82 : gLkV RL 82 12 M_X9_hasPrefix 2 := ⟨TX9, 9, rfl, (gIn (List.mem_of_getElem? (i := 1070) (by decide +kernel)) (by decide +kernel)), (gIn (List.mem_of_getElem? (i := 1071) (by decide +kernel)) (by decide +kernel)), (gIn (List.mem_of_getElem? (i := 1072) (by decide +kernel)) (by decide +kernel)), (gIn (List.mem_of_getElem? (i := 81) (by decide +kernel)) (by decide +kernel)), (gIn (List.mem_of_getElem? (i := 1073) (by decide +kernel)) (by decide +kernel)), rfl, ⟨by decide +kernel, by decide +kernel, by decide +kernel⟩⟩
set_option maxRecDepth 100000 in
theorem kL_86 : gLkV RL 86 12 M_X9_routeFor 1 := ⟨TX9, 9, rfl, (gIn (List.mem_of_getElem? (i := 1080) (by decide +kernel)) (by decide +kernel)), (gIn (List.mem_of_getElem? (i := 1081) (by decide +kernel)) (by decide +kernel)), (gIn (List.mem_of_getElem? (i := 1082) (by decide +kernel)) (by decide +kernel)), (gIn (List.mem_of_getElem? (i := 81) (by decide +kernel)) (by decide +kernel)), (gIn (List.mem_of_getElem? (i := 1083) (by decide +kernel)) (by decide +kernel)), rfl, ⟨by decide +kernel, by decide +kernel, by decide +kernel⟩⟩
set_option maxRecDepth 100000 in
theorem kL_89 : gLkV RL 89 12 M_X9_routeForByTree 1 := ⟨TX9, 9, rfl, (gIn (List.mem_of_getElem? (i := 1097) (by decide +kernel)) (by decide +kernel)), (gIn (List.mem_of_getElem? (i := 1098) (by decide +kernel)) (by decide +kernel)), (gIn (List.mem_of_getElem? (i := 1099) (by decide +kernel)) (by decide +kernel)), (gIn (List.mem_of_getElem? (i := 81) (by decide +kernel)) (by decide +kernel)), (gIn (List.mem_of_getElem? (i := 1100) (by decide +kernel)) (by decide +kernel)), rfl, ⟨by decide +kernel, by decide +kernel, by decide +kernel⟩⟩
set_option maxRecDepth 100000 in
theorem kL_92 : gLkV RL 92 12 M_X9_matchLength 1 := ⟨TX9, 9, rfl, (gIn (List.mem_of_getElem? (i := 1105) (by decide +kernel)) (by decide +kernel)), (gIn (List.mem_of_getElem? (i := 1106) (by decide +kernel)) (by decide +kernel)), (gIn (List.mem_of_getElem? (i := 1107) (by decide +kernel)) (by decide +kernel)), (gIn (List.mem_of_getElem? (i := 81) (by decide +kernel)) (by decide +kernel)), (gIn (List.mem_of_getElem? (i := 1108) (by decide +kernel)) (by decide +kernel)), rfl, ⟨by decide +kernel, by decide +kernel, by decide +kernel⟩⟩
set_option maxRecDepth 100000 in
theorem kL_95 : gLkV RL 95 12 M_X9_codesOf 1 := ⟨TX9, 9, rfl, (gIn (List.mem_of_getElem? (i := 1112) (by decide +kernel)) (by decide +kernel)), (gIn (List.mem_of_getElem? (i := 1113) (by decide +kernel)) (by decide +kernel)), (gIn (List.mem_of_getElem? (i := 1114) (by decide +kernel)) (by decide +kernel)), (gIn (List.mem_of_getElem? (i := 81) (by decide +kernel)) (by decide +kernel)), (gIn (List.mem_of_getElem? (i := 1115) (by decide +kernel)) (by decide +kernel)), rfl, ⟨by decide +kernel, by decide +kernel, by decide +kernel⟩⟩
set_option maxRecDepth 100000 in
theorem kL_98 : gLkV RL 98 12 M_X9_bagCount 1 := ⟨TX9, 9, rfl, (gIn (List.mem_of_getElem? (i := 1128) (by decide +kernel)) (by decide +kernel)), (gIn (List.mem_of_getElem? (i := 1129) (by decide +kernel)) (by decide +kernel)), (gIn (List.mem_of_getElem? (i := 1130) (by decide +kernel)) (by decide +kernel)), (gIn (List.mem_of_getElem? (i := 81) (by decide +kernel)) (by decide +kernel)), (gIn (List.mem_of_getElem? (i := 1131) (by decide +kernel)) (by decide +kernel)), rfl, ⟨by decide +kernel, by decide +kernel, by decide +kernel⟩⟩
set_option maxRecDepth 100000 in
theorem kL_101 : gLkV RL 101 12 M_X9_bagWeight 2 := ⟨TX9, 9, rfl, (gIn (List.mem_of_getElem? (i := 1136) (by decide +kernel)) (by decide +kernel)), (gIn (List.mem_of_getElem? (i := 1137) (by decide +kernel)) (by decide +kernel)), (gIn (List.mem_of_getElem? (i := 1138) (by decide +kernel)) (by decide +kernel)), (gIn (List.mem_of_getElem? (i := 81) (by decide +kernel)) (by decide +kernel)), (gIn (List.mem_of_getElem? (i := 1139) (by decide +kernel)) (by decide +kernel)), rfl, ⟨by decide +kernel, by decide +kernel, by decide +kernel⟩⟩
set_option maxRecDepth 100000 in
theorem kL_104 : gLkV RL 104 12 M_X9_lettersInBag 2 := ⟨TX9, 9, rfl, (gIn (List.mem_of_getElem? (i := 1149) (by decide +kernel)) (by decide +kernel)), (gIn (List.mem_of_getElem? (i := 1150) (by decide +kernel)) (by decide +kernel)), (gIn (List.mem_of_getElem? (i := 1151) (by decide +kernel)) (by decide +kernel)), (gIn (List.mem_of_getElem? (i := 81) (by decide +kernel)) (by decide +kernel)), (gIn (List.mem_of_getElem? (i := 1152) (by decide +kernel)) (by decide +kernel)), rfl, ⟨by decide +kernel, by decide +kernel, by decide +kernel⟩⟩
set_option maxRecDepth 100000 in
theorem kL_107 : gLkV RL 107 12 M_X9_routeWeight 1 := ⟨TX9, 9, rfl, (gIn (List.mem_of_getElem? (i := 1160) (by decide +kernel)) (by decide +kernel)), (gIn (List.mem_of_getElem? (i := 1161) (by decide +kernel)) (by decide +kernel)), (gIn (List.mem_of_getElem? (i := 1162) (by decide +kernel)) (by decide +kernel)), (gIn (List.mem_of_getElem? (i := 81) (by decide +kernel)) (by decide +kernel)), (gIn (List.mem_of_getElem? (i := 1163) (by decide +kernel)) (by decide +kernel)), rfl, ⟨by decide +kernel, by decide +kernel, by decide +kernel⟩⟩
set_option maxRecDepth 100000 in
theorem kL_110 : gLkV RL 110 12 M_X9_routeWeightByBags 1 := ⟨TX9, 9, rfl, (gIn (List.mem_of_getElem? (i := 1168) (by decide +kernel)) (by decide +kernel)), (gIn (List.mem_of_getElem? (i := 1169) (by decide +kernel)) (by decide +kernel)), (gIn (List.mem_of_getElem? (i := 1170) (by decide +kernel)) (by decide +kernel)), (gIn (List.mem_of_getElem? (i := 81) (by decide +kernel)) (by decide +kernel)), (gIn (List.mem_of_getElem? (i := 1171) (by decide +kernel)) (by decide +kernel)), rfl, ⟨by decide +kernel, by decide +kernel, by decide +kernel⟩⟩
set_option maxRecDepth 100000 in
theorem kL_113 : gLkV RL 113 12 M_X9_cutoff 1 := ⟨TX9, 9, rfl, (gIn (List.mem_of_getElem? (i := 1176) (by decide +kernel)) (by decide +kernel)), (gIn (List.mem_of_getElem? (i := 1177) (by decide +kernel)) (by decide +kernel)), (gIn (List.mem_of_getElem? (i := 1178) (by decide +kernel)) (by decide +kernel)), (gIn (List.mem_of_getElem? (i := 81) (by decide +kernel)) (by decide +kernel)), (gIn (List.mem_of_getElem? (i := 1179) (by decide +kernel)) (by decide +kernel)), rfl, ⟨by decide +kernel, by decide +kernel, by decide +kernel⟩⟩
set_option maxRecDepth 100000 in
theorem kL_116 : gLkV RL 116 12 M_X9_departure 1 := ⟨TX9, 9, rfl, (gIn (List.mem_of_getElem? (i := 1183) (by decide +kernel)) (by decide +kernel)), (gIn (List.mem_of_getElem? (i := 1184) (by decide +kernel)) (by decide +kernel)), (gIn (List.mem_of_getElem? (i := 1185) (by decide +kernel)) (by decide +kernel)), (gIn (List.mem_of_getElem? (i := 81) (by decide +kernel)) (by decide +kernel)), (gIn (List.mem_of_getElem? (i := 1186) (by decide +kernel)) (by decide +kernel)), rfl, ⟨by decide +kernel, by decide +kernel, by decide +kernel⟩⟩
set_option maxRecDepth 100000 in
theorem kL_119 : gLkV RL 119 12 M_X9_hoursToDeparture 1 := ⟨TX9, 9, rfl, (gIn (List.mem_of_getElem? (i := 1190) (by decide +kernel)) (by decide +kernel)), (gIn (List.mem_of_getElem? (i := 1191) (by decide +kernel)) (by decide +kernel)), (gIn (List.mem_of_getElem? (i := 1192) (by decide +kernel)) (by decide +kernel)), (gIn (List.mem_of_getElem? (i := 81) (by decide +kernel)) (by decide +kernel)), (gIn (List.mem_of_getElem? (i := 1193) (by decide +kernel)) (by decide +kernel)), rfl, ⟨by decide +kernel, by decide +kernel, by decide +kernel⟩⟩
set_option maxRecDepth 100000 in
theorem kL_122 : gLkV RL 122 12 M_X9_hoursToDelivery 1 := ⟨TX9, 9, rfl, (gIn (List.mem_of_getElem? (i := 1201) (by decide +kernel)) (by decide +kernel)), (gIn (List.mem_of_getElem? (i := 1202) (by decide +kernel)) (by decide +kernel)), (gIn (List.mem_of_getElem? (i := 1203) (by decide +kernel)) (by decide +kernel)), (gIn (List.mem_of_getElem? (i := 81) (by decide +kernel)) (by decide +kernel)), (gIn (List.mem_of_getElem? (i := 1204) (by decide +kernel)) (by decide +kernel)), rfl, ⟨by decide +kernel, by decide +kernel, by decide +kernel⟩⟩
set_option maxRecDepth 100000 in
theorem kL_125 : gLkV RL 125 12 M_X9_hoursToDeliveryByHours 1 := ⟨TX9, 9, rfl, (gIn (List.mem_of_getElem? (i := 1213) (by decide +kernel)) (by decide +kernel)), (gIn (List.mem_of_getElem? (i := 1214) (by decide +kernel)) (by decide +kernel)), (gIn (List.mem_of_getElem? (i := 1215) (by decide +kernel)) (by decide +kernel)), (gIn (List.mem_of_getElem? (i := 81) (by decide +kernel)) (by decide +kernel)), (gIn (List.mem_of_getElem? (i := 1216) (by decide +kernel)) (by decide +kernel)), rfl, ⟨by decide +kernel, by decide +kernel, by decide +kernel⟩⟩
set_option maxRecDepth 100000 in
theorem kL_128 : gLkV RL 128 12 M_X9_freeWeight 1 := ⟨TX9, 9, rfl, (gIn (List.mem_of_getElem? (i := 1220) (by decide +kernel)) (by decide +kernel)), (gIn (List.mem_of_getElem? (i := 1221) (by decide +kernel)) (by decide +kernel)), (gIn (List.mem_of_getElem? (i := 1222) (by decide +kernel)) (by decide +kernel)), (gIn (List.mem_of_getElem? (i := 81) (by decide +kernel)) (by decide +kernel)), (gIn (List.mem_of_getElem? (i := 1223) (by decide +kernel)) (by decide +kernel)), rfl, ⟨by decide +kernel, by decide +kernel, by decide +kernel⟩⟩
set_option maxRecDepth 100000 in
theorem kL_131 : gLkV RL 131 12 M_X9_fullestBag 1 := ⟨TX9, 9, rfl, (gIn (List.mem_of_getElem? (i := 1227) (by decide +kernel)) (by decide +kernel)), (gIn (List.mem_of_getElem? (i := 1228) (by decide +kernel)) (by decide +kernel)), (gIn (List.mem_of_getElem? (i := 1229) (by decide +kernel)) (by decide +kernel)), (gIn (List.mem_of_getElem? (i := 81) (by decide +kernel)) (by decide +kernel)), (gIn (List.mem_of_getElem? (i := 1230) (by decide +kernel)) (by decide +kernel)), rfl, ⟨by decide +kernel, by decide +kernel, by decide +kernel⟩⟩
set_option maxRecDepth 100000 in
theorem kL_134 : gLkV RL 134 12 M_X9_routeByWeight 1 := ⟨TX9, 9, rfl, (gIn (List.mem_of_getElem? (i := 1239) (by decide +kernel)) (by decide +kernel)), (gIn (List.mem_of_getElem? (i := 1240) (by decide +kernel)) (by decide +kernel)), (gIn (List.mem_of_getElem? (i := 1241) (by decide +kernel)) (by decide +kernel)), (gIn (List.mem_of_getElem? (i := 81) (by decide +kernel)) (by decide +kernel)), (gIn (List.mem_of_getElem? (i := 1242) (by decide +kernel)) (by decide +kernel)), rfl, ⟨by decide +kernel, by decide +kernel, by decide +kernel⟩⟩
set_option maxRecDepth 100000 in
theorem kL_137 : gLkV RL 137 12 M_X9_meanWeight 0 := ⟨TX9, 9, rfl, (gIn (List.mem_of_getElem? (i := 1269) (by decide +kernel)) (by decide +kernel)), (gIn (List.mem_of_getElem? (i := 1270) (by decide +kernel)) (by decide +kernel)), (gIn (List.mem_of_getElem? (i := 1271) (by decide +kernel)) (by decide +kernel)), (gIn (List.mem_of_getElem? (i := 81) (by decide +kernel)) (by decide +kernel)), (gIn (List.mem_of_getElem? (i := 1272) (by decide +kernel)) (by decide +kernel)), rfl, ⟨by decide +kernel, by decide +kernel, by decide +kernel⟩⟩
set_option maxRecDepth 100000 in
theorem kL_143 : gLkV RL 143 12 M_X9_deliveredShare 0 := ⟨TX9, 9, rfl, (gIn (List.mem_of_getElem? (i := 1283) (by decide +kernel)) (by decide +kernel)), (gIn (List.mem_of_getElem? (i := 1284) (by decide +kernel)) (by decide +kernel)), (gIn (List.mem_of_getElem? (i := 1285) (by decide +kernel)) (by decide +kernel)), (gIn (List.mem_of_getElem? (i := 81) (by decide +kernel)) (by decide +kernel)), (gIn (List.mem_of_getElem? (i := 1286) (by decide +kernel)) (by decide +kernel)), rfl, ⟨by decide +kernel, by decide +kernel, by decide +kernel⟩⟩
set_option maxRecDepth 100000 in
theorem kL_147 : gLkV RL 147 12 M_X9_formatLetter 1 := ⟨TX9, 9, rfl, (gIn (List.mem_of_getElem? (i := 1291) (by decide +kernel)) (by decide +kernel)), (gIn (List.mem_of_getElem? (i := 1292) (by decide +kernel)) (by decide +kernel)), (gIn (List.mem_of_getElem? (i := 1293) (by decide +kernel)) (by decide +kernel)), (gIn (List.mem_of_getElem? (i := 81) (by decide +kernel)) (by decide +kernel)), (gIn (List.mem_of_getElem? (i := 1294) (by decide +kernel)) (by decide +kernel)), rfl, ⟨by decide +kernel, by decide +kernel, by decide +kernel⟩⟩
set_option maxRecDepth 100000 in
theorem kL_150 : gLkV RL 150 12 M_X9_lineChar 1 := ⟨TX9, 9, rfl, (gIn (List.mem_of_getElem? (i := 1570) (by decide +kernel)) (by decide +kernel)), (gIn (List.mem_of_getElem? (i := 1571) (by decide +kernel)) (by decide +kernel)), (gIn (List.mem_of_getElem? (i := 1572) (by decide +kernel)) (by decide +kernel)), (gIn (List.mem_of_getElem? (i := 81) (by decide +kernel)) (by decide +kernel)), (gIn (List.mem_of_getElem? (i := 1573) (by decide +kernel)) (by decide +kernel)), rfl, ⟨by decide +kernel, by decide +kernel, by decide +kernel⟩⟩
set_option maxRecDepth 100000 in
theorem kL_154 : gLkV RL 154 12 M_X9_append 1 := ⟨TX9, 9, rfl, (gIn (List.mem_of_getElem? (i := 1588) (by decide +kernel)) (by decide +kernel)), (gIn (List.mem_of_getElem? (i := 1589) (by decide +kernel)) (by decide +kernel)), (gIn (List.mem_of_getElem? (i := 1590) (by decide +kernel)) (by decide +kernel)), (gIn (List.mem_of_getElem? (i := 81) (by decide +kernel)) (by decide +kernel)), (gIn (List.mem_of_getElem? (i := 1591) (by decide +kernel)) (by decide +kernel)), rfl, ⟨by decide +kernel, by decide +kernel, by decide +kernel⟩⟩
set_option maxRecDepth 100000 in
theorem kL_158 : gLkV RL 158 12 M_X9_run 0 := ⟨TX9, 9, rfl, (gIn (List.mem_of_getElem? (i := 1597) (by decide +kernel)) (by decide +kernel)), (gIn (List.mem_of_getElem? (i := 1598) (by decide +kernel)) (by decide +kernel)), (gIn (List.mem_of_getElem? (i := 1599) (by decide +kernel)) (by decide +kernel)), (gIn (List.mem_of_getElem? (i := 81) (by decide +kernel)) (by decide +kernel)), (gIn (List.mem_of_getElem? (i := 1600) (by decide +kernel)) (by decide +kernel)), rfl, ⟨by decide +kernel, by decide +kernel, by decide +kernel⟩⟩
set_option maxRecDepth 100000 in
theorem kL_162 : gLkV RL 162 12 M_X9_errorPosition 0 := ⟨TX9, 9, rfl, (gIn (List.mem_of_getElem? (i := 1729) (by decide +kernel)) (by decide +kernel)), (gIn (List.mem_of_getElem? (i := 1730) (by decide +kernel)) (by decide +kernel)), (gIn (List.mem_of_getElem? (i := 1731) (by decide +kernel)) (by decide +kernel)), (gIn (List.mem_of_getElem? (i := 81) (by decide +kernel)) (by decide +kernel)), (gIn (List.mem_of_getElem? (i := 1732) (by decide +kernel)) (by decide +kernel)), rfl, ⟨by decide +kernel, by decide +kernel, by decide +kernel⟩⟩
set_option maxRecDepth 100000 in
theorem kL_165 : gLkV RL 165 12 M_X9_failedCommand 0 := ⟨TX9, 9, rfl, (gIn (List.mem_of_getElem? (i := 1737) (by decide +kernel)) (by decide +kernel)), (gIn (List.mem_of_getElem? (i := 1738) (by decide +kernel)) (by decide +kernel)), (gIn (List.mem_of_getElem? (i := 1739) (by decide +kernel)) (by decide +kernel)), (gIn (List.mem_of_getElem? (i := 81) (by decide +kernel)) (by decide +kernel)), (gIn (List.mem_of_getElem? (i := 1740) (by decide +kernel)) (by decide +kernel)), rfl, ⟨by decide +kernel, by decide +kernel, by decide +kernel⟩⟩
set_option maxRecDepth 100000 in
theorem kL_168 : gLkV RL 168 12 M_X9_undo 0 := ⟨TX9, 9, rfl, (gIn (List.mem_of_getElem? (i := 1745) (by decide +kernel)) (by decide +kernel)), (gIn (List.mem_of_getElem? (i := 1746) (by decide +kernel)) (by decide +kernel)), (gIn (List.mem_of_getElem? (i := 1747) (by decide +kernel)) (by decide +kernel)), (gIn (List.mem_of_getElem? (i := 81) (by decide +kernel)) (by decide +kernel)), (gIn (List.mem_of_getElem? (i := 1748) (by decide +kernel)) (by decide +kernel)), rfl, ⟨by decide +kernel, by decide +kernel, by decide +kernel⟩⟩
set_option maxRecDepth 100000 in
theorem kL_171 : gLkV RL 171 12 M_X9_restore 0 := ⟨TX9, 9, rfl, (gIn (List.mem_of_getElem? (i := 1753) (by decide +kernel)) (by decide +kernel)), (gIn (List.mem_of_getElem? (i := 1754) (by decide +kernel)) (by decide +kernel)), (gIn (List.mem_of_getElem? (i := 1755) (by decide +kernel)) (by decide +kernel)), (gIn (List.mem_of_getElem? (i := 81) (by decide +kernel)) (by decide +kernel)), (gIn (List.mem_of_getElem? (i := 1756) (by decide +kernel)) (by decide +kernel)), rfl, ⟨by decide +kernel, by decide +kernel, by decide +kernel⟩⟩

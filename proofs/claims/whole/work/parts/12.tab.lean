/-! tables of the program: names, codes, places of blocks, links -/
def ai_rows_0 : List (MethodName × ByteArray × Option FieldType × List Nat) := [(yX0_init, cX0_init, none, [0, 24, 44]),
  (yX0_setMud, cX0_setMud, none, [0, 5, 7, 35]),
  (yX0_mudOf, cX0_mudOf, (some .int), [0, 4, 16, 17]),
  (yX0_feastOf, cX0_feastOf, (some .int), [0, 4, 16, 17]),
  (yX0_hasRoomForFeast, cX0_hasRoomForFeast, (some .boolean), [0, 14, 18, 22, 23]),
  (yX0_setFeast, cX0_setFeast, none, [0, 4, 8, 28, 43]),
  (yX1_init, cX1_init, none, [0]),
  (yX1_has, cX1_has, (some .boolean), [0, 16, 17]),
  (yX1_add, cX1_add, (some .int), [0, 11]),
  (yX1_setBar, cX1_setBar, none, [0, 5, 13, 16, 17, 48, 76]),
  (yX1_ranksDiffer, cX1_ranksDiffer, (some .boolean), [0, 2, 27, 33]),
  (yX1_allHorses, cX1_allHorses, (some .int), [0, 4, 27]),
  (yX2_init, cX2_init, none, [0]),
  (yX2_roomOf, cX2_roomOf, (some .int), [0, 8, 25, 26]),
  (yX2_reasonAgainst, cX2_reasonAgainst, (some .int), [0, 8, 13, 34, 41, 55, 61, 66, 72, 79, 80]),
  (yX2_leastSum, cX2_leastSum, (some .int), [0, 8, 37, 49, 51, 57, 62, 69, 86, 90]),
  (yX2_isPossible, cX2_isPossible, (some .boolean), [0, 7, 23, 27, 38, 39]),
  (yX2_everyone, cX2_everyone, (some .int), [0]),
  (yX2_prepare, cX2_prepare, none, [0, 9, 24, 25, 31, 66, 67, 89, 94, 98, 109, 116, 117, 122, 141, 147]),
  (yX2_sortRooms, cX2_sortRooms, none, [0, 2, 28, 84, 106])]
def ai_rows_1 : List (MethodName × ByteArray × Option FieldType × List Nat) := [(yX2_sortHouseholds, cX2_sortHouseholds, none, [0, 2, 15, 61, 74]),
  (yX2_relate, cX2_relate, none, [0, 44, 94, 95, 124, 128, 129, 152, 156, 157, 173, 209, 213, 214, 219, 255, 259, 260, 265, 293, 294, 299, 307]),
  (yX2_bitIf, cX2_bitIf, (some .int), [0, 10, 11]),
  (yX2_search, cX2_search, none, [0, 9, 10, 23, 26, 27, 36, 63, 119, 145, 151]),
  (yX2_keep, cX2_keep, none, [0, 15, 44]),
  (yX2_choose, cX2_choose, (some .int), [0, 15, 67, 92, 106, 123, 129, 146, 154, 158, 159, 170, 172]),
  (yX2_hardship, cX2_hardship, (some .int), [0, 6, 28]),
  (yX2_leastTogether, cX2_leastTogether, (some .int), [0, 8, 39, 63, 75, 96, 102]),
  (yX2_give, cX2_give, none, [0, 16, 88, 124, 157, 172, 178]),
  (yX2_preferLesserRooms, cX2_preferLesserRooms, none, [0, 4, 10, 40, 56, 85]),
  (yX2_findLesserRoom, cX2_findLesserRoom, none, [0, 16, 29, 74, 98, 108, 114]),
  (yX2_spotOfRoom, cX2_spotOfRoom, (some .int), [0, 4, 24, 30]),
  (yX3_init, cX3_init, none, [0]),
  (yX3_has, cX3_has, (some .boolean), [0, 16, 17]),
  (yX3_add, cX3_add, (some .int), [0, 11]),
  (yX3_addRoom, cX3_addRoom, (some .int), [0, 5, 19, 21]),
  (yX3_setWay, cX3_setWay, none, [0, 5, 13, 40]),
  (yX3_hoursOn, cX3_hoursOn, (some .int), [0, 5, 13, 16, 18, 48, 50]),
  (yX3_supply, cX3_supply, (some .int), [0, 5, 23, 26, 27]),
  (yX3_take, cX3_take, (some .int), [0, 5, 10, 16, 19])]
def ai_rows_2 : List (MethodName × ByteArray × Option FieldType × List Nat) := [(yX3_fact, cX3_fact, (some .int), [0, 5, 10, 44, 51, 58, 65, 72, 79]),
  (yX4_init, cX4_init, none, [0]),
  (yX4_add, cX4_add, (some .int), [0, 11, 39, 88]),
  (yX4_hearFirst, cX4_hearFirst, (some .int), [0, 8, 12, 37, 40, 71]),
  (yX4_dayHeard, cX4_dayHeard, (some .int), [0, 21, 22]),
  (yX4_inTurn, cX4_inTurn, (some .int), [0, 21, 22]),
  (yX5_init, cX5_init, none, [0]),
  (yX5_stopOn, cX5_stopOn, (some .int), [0, 31, 32, 51, 52]),
  (yX5_leastHours, cX5_leastHours, (some .int), [0, 8, 24, 26, 47, 51, 80, 94, 96]),
  (yX5_measureRows, cX5_measureRows, none, [0, 2, 28, 47, 54, 56, 69, 93, 100, 106]),
  (yX5_measuredEnd, cX5_measuredEnd, (some .int), [0, 8, 12, 39, 58]),
  (yX5_mayBeAt, cX5_mayBeAt, (some .boolean), [0, 13, 24, 28, 29]),
  (yX5_leastOnward, cX5_leastOnward, (some .int), [0, 6, 19, 27, 45, 48, 56]),
  (yX5_leastLeaving, cX5_leastLeaving, (some .int), [0, 7, 19, 51, 76, 79, 87, 110]),
  (yX5_leastBy, cX5_leastBy, (some .int), [0, 22, 26, 41, 63, 67, 71, 87]),
  (yX5_leastFrom, cX5_leastFrom, (some .int), [0, 7, 19, 48, 71]),
  (yX5_slotOf, cX5_slotOf, (some .int), [0, 64, 66, 104]),
  (yX5_trace, cX5_trace, none, [0, 52, 73, 100, 119, 135]),
  (yX5_leastNext, cX5_leastNext, (some .int), [0, 3, 32, 35, 48, 60, 66]),
  (yX6_init, cX6_init, none, [0])]
def ai_rows_3 : List (MethodName × ByteArray × Option FieldType × List Nat) := [(yX6_reads, cX6_reads, (some .boolean), [0, 19, 29, 31, 42, 47, 57, 71, 72, 76, 82]),
  (yX6_faultPlace, cX6_faultPlace, (some .int), [0, 11]),
  (yX6_readRule, cX6_readRule, (some .boolean), [0, 35, 36, 47, 48, 55, 69, 74, 99, 100, 118, 119, 122, 126]),
  (yX6_readTests, cX6_readTests, (some .boolean), [0, 2, 11, 15, 22, 23, 33, 34, 38, 43, 55, 61]),
  (yX6_readTest, cX6_readTest, (some .boolean), [0, 9, 37, 38, 42, 46, 54, 55, 72, 76]),
  (yX6_readSum, cX6_readSum, (some .boolean), [0, 2, 11, 15, 22, 29, 30, 40, 41, 45, 50, 61, 67]),
  (yX6_readTerm, cX6_readTerm, (some .boolean), [0, 6, 22, 41, 43, 47, 51, 58, 59, 71, 75]),
  (yX6_advance, cX6_advance, none, [0, 22]),
  (yX6_isNumber, cX6_isNumber, (some .boolean), [0, 14, 15]),
  (yX6_isName, cX6_isName, (some .boolean), [0, 19, 20]),
  (yX6_failWithoutName, cX6_failWithoutName, (some .boolean), [0, 15, 16, 19]),
  (yX6_fail, cX6_fail, (some .boolean), [0]),
  (yX7_init, cX7_init, none, [0]),
  (yX7_beginDraft, cX7_beginDraft, none, [0, 19]),
  (yX7_draftRule, cX7_draftRule, none, [0, 40, 90]),
  (yX7_draftKind, cX7_draftKind, none, [0, 16, 17]),
  (yX7_draftTest, cX7_draftTest, none, [0, 80]),
  (yX7_draftTerm, cX7_draftTerm, none, [0, 68]),
  (yX7_enact, cX7_enact, (some .int), [0, 11]),
  (yX7_inForce, cX7_inForce, (some .int), [0, 8, 50, 56])]
def ai_rows_4 : List (MethodName × ByteArray × Option FieldType × List Nat) := [(yX7_portion, cX7_portion, (some .int), [0, 5, 20, 23, 25, 30, 35, 46, 47, 50]),
  (yX7_needOf, cX7_needOf, (some .int), [0, 5, 12, 17, 22, 40, 58, 80, 97, 99, 107, 114]),
  (yX7_setDay, cX7_setDay, none, [0, 20, 34, 42, 43]),
  (yX7_setHousehold, cX7_setHousehold, none, [0, 8, 56]),
  (yX7_firstSum, cX7_firstSum, (some .int), [0, 12, 14, 16, 31, 50, 59, 60, 66]),
  (yX7_testsHold, cX7_testsHold, (some .boolean), [0, 19, 34, 80, 91, 92, 97, 108, 109, 114, 125, 126, 128, 135, 141]),
  (yX7_sumOf, cX7_sumOf, (some .int), [0, 24, 51, 60]),
  (yX7_valueOf, cX7_valueOf, (some .int), [0, 19, 20]),
  (yX7_rowOf, cX7_rowOf, (some .int), [0]),
  (yX8_init, cX8_init, none, [0]),
  (yX8_hasRoom, cX8_hasRoom, (some .boolean), [0, 14, 15]),
  (yX8_append, cX8_append, none, [0, 3, 49]),
  (yX8_tokenAt, cX8_tokenAt, (some .int), [0, 21, 22]),
  (yX8_placeAt, cX8_placeAt, (some .int), [0, 21, 22]),
  (yX8_scan, cX8_scan, none, [0, 10, 13, 25, 51, 57, 66, 103]),
  (yX8_skipBlanks, cX8_skipBlanks, (some .int), [0, 2, 15, 26]),
  (yX8_tokenEnd, cX8_tokenEnd, (some .int), [0, 7, 10, 23, 32, 37, 40, 53, 62, 65]),
  (yX8_tokenOf, cX8_tokenOf, (some .int), [0, 10, 15, 31, 37, 38, 43, 58, 64, 65, 70, 73, 81, 84, 86]),
  (yX8_numberOf, cX8_numberOf, (some .int), [0, 5, 21, 32]),
  (yX8_wordOf, cX8_wordOf, (some .int), [0, 8, 13, 21, 26, 34, 39, 47, 52, 60, 65, 73, 78, 86, 93, 101, 108, 116, 123, 131, 138])]
def ai_rows_5 : List (MethodName × ByteArray × Option FieldType × List Nat) := [(yX8_spells, cX8_spells, (some .boolean), [0, 7, 12, 15, 21, 32, 38, 43, 49]),
  (yX8_isLetter, cX8_isLetter, (some .boolean), [0, 5, 15, 24, 25]),
  (yX8_isDigit, cX8_isDigit, (some .boolean), [0, 5, 15, 24, 25]),
  (yX8_isSign, cX8_isSign, (some .boolean), [0, 36, 40, 41]),
  (yX9_init, cX9_init, none, [0, 38, 49, 60, 79, 90, 109, 128, 151, 162, 167, 186]),
  (yX9_household, cX9_household, (some .int), [0, 7, 17, 27, 30, 35, 36, 53, 54, 65, 68]),
  (yX9_bar, cX9_bar, (some .boolean), [0, 8, 19, 27, 32, 33, 43, 47]),
  (yX9_place, cX9_place, (some .int), [0, 7, 17, 28, 31, 36, 37, 54, 55, 65, 81, 87]),
  (yX9_room, cX9_room, (some .int), [0, 8, 16, 17, 24, 33, 44, 47, 52, 53, 72, 73, 86, 89]),
  (yX9_way, cX9_way, (some .boolean), [0, 8, 19, 27, 32, 33, 40, 48, 49, 59, 63]),
  (yX9_mud, cX9_mud, (some .boolean), [0, 4, 11, 25, 28, 33, 34, 44, 48]),
  (yX9_feast, cX9_feast, (some .boolean), [0, 13, 21, 22, 26, 34, 35, 48, 56, 57, 66, 70]),
  (yX9_bring, cX9_bring, (some .boolean), [0, 8, 16, 17, 79, 84, 85, 113]),
  (yX9_feed, cX9_feed, (some .int), [0, 7, 12, 20, 28, 36, 45, 54]),
  (yX9_ordinance, cX9_ordinance, (some .int), [0, 4, 19, 22, 27, 28, 36, 51, 59, 60, 77, 78, 87, 90]),
  (yX9_fault, cX9_fault, (some .int), [0]),
  (yX9_where, cX9_where, (some .int), [0, 15, 18, 19]),
  (yX9_force, cX9_force, (some .int), [0, 4, 15, 18, 19]),
  (yX9_eats, cX9_eats, (some .int), [0, 8, 15, 18, 20, 30]),
  (yX9_need, cX9_need, (some .int), [0, 4, 15, 18, 19])]
def ai_rows_6 : List (MethodName × ByteArray × Option FieldType × List Nat) := [(yX9_lodge, cX9_lodge, (some .int), [0, 8, 16, 17, 25, 37, 38, 46, 48, 67, 74, 79]),
  (yX9_lodged, cX9_lodged, (some .int), [0, 7, 19, 20]),
  (yX9_why, cX9_why, (some .int), [0, 8, 20, 23, 26, 31]),
  (yX9_route, cX9_route, (some .int), [0, 4, 26, 31, 32, 43, 52, 53, 69, 81, 82, 90, 95]),
  (yX9_at, cX9_at, (some .int), [0, 8]),
  (yX9_lasts, cX9_lasts, (some .int), [0, 11, 20, 21, 32, 40, 56, 65, 74, 79]),
  (yX9_step, cX9_step, (some .int), [0, 8, 22, 25, 30, 31, 59, 62, 70, 71, 86, 87, 106, 109, 153]),
  (yX9_about, cX9_about, (some .int), [0, 8, 20, 23, 24]),
  (yX9_was, cX9_was, (some .int), [0, 5, 17, 18]),
  (yX9_lacked, cX9_lacked, (some .int), [0, 5, 17, 18]),
  (yX9_plea, cX9_plea, (some .int), [0, 7, 15, 16, 33, 34, 47, 50]),
  (yX9_hear, cX9_hear, (some .int), [0, 7, 23, 26, 29, 34]),
  (yX9_heard, cX9_heard, (some .int), [0, 8]),
  (yX9_next, cX9_next, (some .int), [0, 8]),
  (yX9_count, cX9_count, (some .int), [0, 48, 56, 64, 72, 80, 88, 93, 98, 106]),
  (yX9_trouble, cX9_trouble, (some .int), [0]),
  (yX9_refuse, cX9_refuse, (some .int), [0]),
  (yX9_grant, cX9_grant, (some .int), [0]),
  (yX9_deny, cX9_deny, (some .boolean), [0]),
  (yX9_allow, cX9_allow, (some .boolean), [0])]
def ai_rows_7 : List (MethodName × ByteArray × Option FieldType × List Nat) := [(yX9_isPast, cX9_isPast, (some .boolean), [0, 4, 19, 20]),
  (yX9_isDay, cX9_isDay, (some .boolean), [0, 15, 16]),
  (yX9_isWithin, cX9_isWithin, (some .boolean), [0, 14, 15]),
  (yX9_lowestIn, cX9_lowestIn, (some .int), [0, 9]),
  (yX11_refused, cX11_refused, (some .int), [0]),
  (yX11_denied, cX11_denied, (some .boolean), [0]),
  (yX11_done, cX11_done, (some .int), [0]),
  (yX11_granted, cX11_granted, (some .boolean), [0]),
  (yX11_in, cX11_in, (some .boolean), [0, 14, 15]),
  (yX11_init, cX11_init, none, [0, 194, 360, 380]),
  (yX11_isHousehold, cX11_isHousehold, (some .boolean), [0, 16, 17]),
  (yX11_isPlace, cX11_isPlace, (some .boolean), [0, 16, 17]),
  (yX11_isDay, cX11_isDay, (some .boolean), [0, 15, 16]),
  (yX11_household, cX11_household, (some .int), [0, 12, 22, 32, 35, 40, 41, 55, 56, 106]),
  (yX11_bar, cX11_bar, (some .boolean), [0, 10, 18, 26, 31, 32, 54, 66, 89, 101, 106]),
  (yX11_place, cX11_place, (some .int), [0, 12, 22, 33, 36, 41, 42, 56, 57, 99, 119]),
  (yX11_room, cX11_room, (some .int), [0, 10, 18, 19, 26, 35, 46, 49, 54, 55, 71, 72, 132]),
  (yX11_way, cX11_way, (some .boolean), [0, 10, 18, 26, 31, 32, 39, 47, 48, 76]),
  (yX11_mud, cX11_mud, (some .boolean), [0, 27, 30, 35, 36, 39, 59, 63]),
  (yX11_feast, cX11_feast, (some .boolean), [0, 15, 23, 24, 28, 36, 37, 66, 67, 81, 82, 96, 97, 113])]
def ai_rows_8 : List (MethodName × ByteArray × Option FieldType × List Nat) := [(yX11_bring, cX11_bring, (some .boolean), [0, 10, 18, 19, 75, 80, 81, 103]),
  (yX11_stop, cX11_stop, (some (.object "CourtProgressModel$Stop")), [0]),
  (yX11_byteAt, cX11_byteAt, (some .int), [0, 21, 22]),
  (yX11_isLetter, cX11_isLetter, (some .boolean), [0, 16, 17]),
  (yX11_isDigit, cX11_isDigit, (some .boolean), [0, 16, 17]),
  (yX11_wordOf, cX11_wordOf, (some .long), [0, 4, 9, 22, 36]),
  (yX11_next, cX11_next, none, [0, 8, 26, 52, 68, 72, 80, 88, 91, 117, 127, 143, 157, 161, 169, 177, 180, 204, 211, 227, 240, 276, 296]),
  (yX11_isWord, cX11_isWord, (some .boolean), [0, 16, 24, 25]),
  (yX11_is, cX11_is, (some .boolean), [0, 20, 21]),
  (yX11_nameHere, cX11_nameHere, (some .int), [0, 14, 23, 32, 41, 44, 49, 50, 57, 64, 71, 78, 85, 92, 99, 106, 113, 120, 127, 134, 135, 146, 147]),
  (yX11_reads, cX11_reads, none, [0, 16, 18, 28, 37, 46, 54, 55, 71, 72, 104, 106, 115, 120, 126, 131, 137, 146, 154, 155, 166, 170, 179, 184, 190, 195, 211, 220, 223, 236, 237]),
  (yX11_readTest, cX11_readTest, none, [0, 4, 20, 21, 43, 49, 58, 67, 75, 76, 90, 103, 104, 118]),
  (yX11_readTerm, cX11_readTerm, none, [0, 12, 16, 32, 33, 64, 65, 77, 88, 95, 104, 109]),
  (yX11_feed, cX11_feed, (some .int), [0, 20, 23, 40, 51, 62, 74, 76, 117]),
  (yX11_ordinance, cX11_ordinance, (some .int), [0, 9, 24, 29, 30, 54, 57, 81, 95, 96, 126]),
  (yX11_fault, cX11_fault, (some .int), [0]),
  (yX11_where, cX11_where, (some .int), [0]),
  (yX11_forceOf, cX11_forceOf, (some .int), [0, 5, 44, 46, 52]),
  (yX11_force, cX11_force, (some .int), [0, 9, 17, 20, 21]),
  (yX11_valueOf, cX11_valueOf, (some .int), [0, 36, 43, 50, 57, 59, 66, 80, 81])]
def ai_rows_9 : List (MethodName × ByteArray × Option FieldType × List Nat) := [(yX11_eatsOf, cX11_eatsOf, (some .int), [0, 5, 15, 18, 56, 57, 65, 95, 129, 156, 168, 172, 173, 181, 189, 198, 239, 252, 262, 265, 271]),
  (yX11_eats, cX11_eats, (some .int), [0, 10, 17, 27, 30, 31]),
  (yX11_needOf, cX11_needOf, (some .int), [0, 5, 31, 49, 60, 67]),
  (yX11_need, cX11_need, (some .int), [0, 9, 17, 20, 21]),
  (yX11_mayHave, cX11_mayHave, (some .boolean), [0, 6, 81, 85, 86, 112, 153, 170, 174, 175, 177, 183]),
  (yX11_lodges, cX11_lodges, (some .boolean), [0, 16, 45, 47, 53, 74, 120, 130, 136, 158, 166, 170, 171, 173, 179]),
  (yX11_spares, cX11_spares, none, [0, 5, 30, 37, 54, 87]),
  (yX11_whyOf, cX11_whyOf, (some .int), [0, 4, 27, 42, 54, 63, 68, 77, 84, 85]),
  (yX11_lodge, cX11_lodge, (some .int), [0, 10, 18, 19, 24, 33, 34, 39, 55, 58, 84, 100]),
  (yX11_lodged, cX11_lodged, (some .int), [0, 26, 27]),
  (yX11_why, cX11_why, (some .int), [0, 10, 19, 22, 25, 30]),
  (yX11_hoursOf, cX11_hoursOf, (some .int), [0, 36, 40, 42]),
  (yX11_mayBe, cX11_mayBe, (some .boolean), [0, 20, 24, 25]),
  (yX11_goesOn, cX11_goesOn, (some .int), [0, 10, 41, 79, 81, 84, 104, 107, 115]),
  (yX11_leaves, cX11_leaves, (some .int), [0, 14, 26, 38, 78, 83]),
  (yX11_rows, cX11_rows, none, [0, 3, 27, 30, 34, 74, 77, 84, 90, 93, 111, 129, 169, 181, 189, 215]),
  (yX11_route, cX11_route, (some .int), [0, 23, 26, 34, 35, 49, 50, 61, 81, 88, 97, 104, 131, 137, 143, 177, 178, 227, 264, 306, 315, 316, 321, 345, 357, 362, 368, 382, 399, 426, 443, 448]),
  (yX11_at, cX11_at, (some .int), [0, 40, 41]),
  (yX11_lasts, cX11_lasts, (some .int), [0, 19, 20, 30, 45, 78, 83, 84, 93, 98]),
  (yX11_step, cX11_step, (some .int), [0, 10, 18, 19, 40, 49, 50, 65, 66, 74, 97, 100, 200])]
def ai_rows_10 : List (MethodName × ByteArray × Option FieldType × List Nat) := [(yX11_about, cX11_about, (some .int), [0, 10, 15, 52, 59, 66, 73, 80, 87]),
  (yX11_was, cX11_was, (some .int), [0, 26, 27]),
  (yX11_lacked, cX11_lacked, (some .int), [0, 26, 27]),
  (yX11_plea, cX11_plea, (some .int), [0, 12, 20, 21, 35, 36, 90]),
  (yX11_nextOf, cX11_nextOf, (some .int), [0, 2, 24, 44, 102, 106, 107, 116, 124, 130]),
  (yX11_hear, cX11_hear, (some .int), [0, 12, 20, 21, 28, 29, 57, 61, 66]),
  (yX11_heard, cX11_heard, (some .int), [0, 26, 27]),
  (yX11_next_, cX11_next_, (some .int), [0, 10]),
  (yX11_count, cX11_count, (some .int), [0, 52, 57, 62, 67, 72, 76, 100, 101, 109, 111, 116, 121, 126]),
  (yX11_trouble, cX11_trouble, (some .int), [0]),
  (yJ6_bitCount_0f7a4, cJ6_bitCount_0f7a4, (some .int), [0]),
  (yJ9_max_7cf53, cJ9_max_7cf53, (some .int), [0, 9, 10]),
  (yJ9_min_7cf53, cJ9_min_7cf53, (some .int), [0, 9, 10]),
  (yJ9_min_f86c9, cJ9_min_f86c9, (some .long), [0, 10, 11]),
  (yX5_rowEnd, cX5_rowEnd, (some .int), [0, 31, 32, 51, 54]),
  (yX8_byteAt, cX8_byteAt, (some .int), [0, 21, 22])]
def ai_rows : List (MethodName × ByteArray × Option FieldType × List Nat) := ai_rows_0 ++ (ai_rows_1 ++ (ai_rows_2 ++ (ai_rows_3 ++ (ai_rows_4 ++ (ai_rows_5 ++ (ai_rows_6 ++ (ai_rows_7 ++ (ai_rows_8 ++ (ai_rows_9 ++ (ai_rows_10))))))))))
def ai_row0 : MethodName × ByteArray × Option FieldType × List Nat := (⟨"", "", ""⟩, ⟨#[]⟩, none, [])
def ai_rw (mi : Nat) : MethodName × ByteArray × Option FieldType × List Nat := (ai_rows[mi]?).getD ai_row0
def ai_pr : List MethodName := [⟨"java/lang/String", "length", "()I"⟩, ⟨"java/lang/String", "charAt", "(I)C"⟩, ⟨"CourtProgressModel$Stop", "<init>", "()V"⟩, ⟨"CourtProgress$Router", "makeRoom", "()V"⟩]
def ai_y (mi : Nat) : MethodName := if mi < 300 then (ai_rw mi).1 else (ai_pr[mi - 300]?).getD ⟨"", "", ""⟩
def ai_bts (mi : Nat) : ByteArray := (ai_rw mi).2.1
def ai_ret (mi : Nat) : Option FieldType := (ai_rw mi).2.2.1
def ai_pc (mi b : Nat) : Nat := ((ai_rw mi).2.2.2[b]?).getD 0
def ai_cl : List vw_C := [(RX0, TX0, 3), (RX1, TX1, 5), (RX2, TX2, 16), (RX3, TX3, 11), (RX4, TX4, 5), (RX5, TX5, 14), (RX6, TX6, 5), (RX7, TX7, 8), (RX8, TX8, 6), (RX9, TX9, 15), (RX10, TX10, 8), (RX11, TX11, 64)]
def ai_C (ci : Nat) : vw_C := (ai_cl[ci]?).getD (RX0, TX0, 0)
/-- a field link: who asks, its entry, the kind, the field, by nest or not, the place of its word -/
def ai_flt : List (String × Nat × Nat × Nat × Bool × Nat) := [("CourtProgress$Calendar", 9, 0, 0, false, 203), ("CourtProgress$Calendar", 15, 0, 1, false, 204), ("CourtProgress$Calendar", 28, 0, 2, false, 205), ("CourtProgress$Households", 9, 1, 1, false, 125), ("CourtProgress$Households", 15, 1, 2, false, 128), ("CourtProgress$Households", 18, 1, 3, false, 131), ("CourtProgress$Households", 21, 1, 4, false, 133), ("CourtProgress$Households", 24, 1, 0, false, 121), ("CourtProgress$Lodger", 9, 2, 3, false, 304), ("CourtProgress$Lodger", 15, 2, 4, false, 305), ("CourtProgress$Lodger", 18, 2, 5, false, 306), ("CourtProgress$Lodger", 21, 2, 6, false, 307), ("CourtProgress$Lodger", 24, 2, 7, false, 308), ("CourtProgress$Lodger", 27, 2, 8, false, 309), ("CourtProgress$Lodger", 30, 2, 9, false, 310), ("CourtProgress$Lodger", 33, 2, 10, false, 311), ("CourtProgress$Lodger", 36, 2, 11, false, 312), ("CourtProgress$Lodger", 39, 2, 12, false, 313), ("CourtProgress$Lodger", 42, 2, 13, false, 314), ("CourtProgress$Lodger", 45, 2, 0, false, 301), ("CourtProgress$Lodger", 49, 2, 1, false, 302), ("CourtProgress$Lodger", 62, 3, 6, false, 165), ("CourtProgress$Lodger", 65, 1, 0, false, 123), ("CourtProgress$Lodger", 73, 3, 3, false, 161), ("CourtProgress$Lodger", 85, 2, 14, false, 315), ("CourtProgress$Lodger", 88, 2, 15, false, 316), ("CourtProgress$Lodger", 98, 2, 2, false, 303), ("CourtProgress$Lodger", 100, 1, 2, false, 129), ("CourtProgress$Lodger", 118, 3, 9, false, 172), ("CourtProgress$Lodger", 121, 3, 8, false, 170), ("CourtProgress$Lodger", 124, 3, 7, false, 168), ("CourtProgress$Lodger", 158, 1, 4, false, 134), ("CourtProgress$Lodger", 161, 1, 1, false, 127), ("CourtProgress$Places", 9, 3, 1, false, 156), ("CourtProgress$Places", 15, 3, 2, false, 158), ("CourtProgress$Places", 18, 3, 3, false, 160), ("CourtProgress$Places", 21, 3, 4, false, 162), ("CourtProgress$Places", 24, 3, 5, false, 163), ("CourtProgress$Places", 27, 3, 6, false, 164), ("CourtProgress$Places", 30, 3, 7, false, 167), ("CourtProgress$Places", 33, 3, 8, false, 169), ("CourtProgress$Places", 36, 3, 9, false, 171), ("CourtProgress$Places", 39, 3, 10, false, 173), ("CourtProgress$Places", 42, 3, 0, false, 153), ("CourtProgress$Pleas", 11, 4, 2, false, 409), ("CourtProgress$Pleas", 15, 4, 3, false, 410), ("CourtProgress$Pleas", 18, 4, 4, false, 411), ("CourtProgress$Pleas", 21, 4, 0, false, 405), ("CourtProgress$Pleas", 25, 4, 1, false, 407), ("CourtProgress$Router", 11, 5, 6, false, 362), ("CourtProgress$Router", 15, 5, 7, false, 363), ("CourtProgress$Router", 18, 5, 8, false, 364), ("CourtProgress$Router", 21, 5, 9, false, 365), ("CourtProgress$Router", 24, 5, 11, false, 367), ("CourtProgress$Router", 27, 5, 0, false, 356), ("CourtProgress$Router", 31, 5, 1, false, 357), ("CourtProgress$Router", 35, 5, 2, false, 358), ("CourtProgress$Router", 39, 5, 13, false, 369), ("CourtProgress$Router", 43, 5, 12, false, 368), ("CourtProgress$Router", 52, 5, 3, false, 359), ("CourtProgress$Router", 55, 5, 4, false, 360), ("CourtProgress$Router", 58, 5, 5, false, 361), ("CourtProgress$Router", 67, 5, 10, false, 366), ("CourtProgress$Router", 86, 3, 0, false, 155), ("CourtProgress$Scribe", 7, 6, 0, false, 278), ("CourtProgress$Scribe", 13, 6, 1, false, 279), ("CourtProgress$Scribe", 17, 6, 2, false, 280), ("CourtProgress$Scribe", 21, 6, 3, false, 282), ("CourtProgress$Scribe", 30, 6, 4, false, 283), ("CourtProgress$Statutes", 11, 7, 3, false, 224), ("CourtProgress$Statutes", 15, 7, 4, false, 225), ("CourtProgress$Statutes", 18, 7, 5, false, 226), ("CourtProgress$Statutes", 21, 7, 7, false, 228), ("CourtProgress$Statutes", 24, 7, 0, false, 220), ("CourtProgress$Statutes", 28, 7, 1, false, 221), ("CourtProgress$Statutes", 32, 7, 2, false, 222), ("CourtProgress$Statutes", 40, 7, 6, false, 227), ("CourtProgress$Statutes", 63, 1, 0, false, 124), ("CourtProgress$Statutes", 64, 1, 2, false, 130), ("CourtProgress$Statutes", 67, 1, 3, false, 132), ("CourtProgress$Statutes", 86, 1, 1, false, 126), ("CourtProgress$Tape", 11, 8, 1, false, 254), ("CourtProgress$Tape", 15, 8, 4, false, 257), ("CourtProgress$Tape", 18, 8, 5, false, 258), ("CourtProgress$Tape", 21, 8, 0, false, 252), ("CourtProgress$Tape", 25, 8, 3, false, 256), ("CourtProgress$Tape", 37, 8, 2, false, 255), ("CourtProgress", 9, 9, 9, false, 432), ("CourtProgress", 13, 9, 10, false, 433), ("CourtProgress", 16, 9, 11, false, 434), ("CourtProgress", 22, 9, 0, false, 423), ("CourtProgress", 29, 9, 1, false, 424), ("CourtProgress", 36, 9, 2, false, 425), ("CourtProgress", 45, 9, 3, false, 426), ("CourtProgress", 52, 9, 4, false, 427), ("CourtProgress", 61, 9, 5, false, 428), ("CourtProgress", 70, 9, 6, false, 429), ("CourtProgress", 79, 9, 7, false, 430), ("CourtProgress", 86, 9, 8, false, 431), ("CourtProgress", 90, 9, 12, false, 435), ("CourtProgress", 94, 9, 13, false, 436), ("CourtProgress", 97, 9, 14, false, 437), ("CourtProgress", 108, 1, 0, false, 122), ("CourtProgress", 134, 3, 0, false, 154), ("CourtProgress", 137, 3, 6, false, 166), ("CourtProgress", 161, 3, 1, false, 157), ("CourtProgress", 164, 3, 2, false, 159), ("CourtProgress", 176, 8, 0, false, 253), ("CourtProgress", 183, 7, 2, false, 223), ("CourtProgress", 187, 6, 2, false, 281), ("CourtProgress", 244, 4, 0, false, 406), ("CourtProgress", 256, 0, 2, false, 206), ("CourtProgress", 259, 4, 1, false, 408), ("CourtProgressModel", 7, 11, 1, false, 1191), ("CourtProgressModel", 10, 11, 2, false, 1192), ("CourtProgressModel", 19, 11, 9, false, 1199), ("CourtProgressModel", 22, 11, 10, false, 1200), ("CourtProgressModel", 26, 11, 11, false, 1201), ("CourtProgressModel", 29, 11, 12, false, 1202), ("CourtProgressModel", 32, 11, 13, false, 1203), ("CourtProgressModel", 35, 11, 14, false, 1204), ("CourtProgressModel", 38, 11, 15, false, 1205), ("CourtProgressModel", 41, 11, 16, false, 1206), ("CourtProgressModel", 44, 11, 17, false, 1207), ("CourtProgressModel", 47, 11, 18, false, 1208), ("CourtProgressModel", 50, 11, 19, false, 1209), ("CourtProgressModel", 53, 11, 20, false, 1210), ("CourtProgressModel", 56, 11, 21, false, 1211), ("CourtProgressModel", 59, 11, 22, false, 1212), ("CourtProgressModel", 62, 11, 23, false, 1213), ("CourtProgressModel", 65, 11, 24, false, 1214), ("CourtProgressModel", 68, 11, 25, false, 1215), ("CourtProgressModel", 71, 11, 26, false, 1216), ("CourtProgressModel", 74, 11, 27, false, 1217), ("CourtProgressModel", 77, 11, 28, false, 1218), ("CourtProgressModel", 80, 11, 29, false, 1219), ("CourtProgressModel", 83, 11, 30, false, 1220), ("CourtProgressModel", 89, 11, 31, false, 1221), ("CourtProgressModel", 93, 11, 32, false, 1222), ("CourtProgressModel", 97, 11, 42, false, 1232), ("CourtProgressModel", 100, 11, 43, false, 1233), ("CourtProgressModel", 103, 11, 44, false, 1234), ("CourtProgressModel", 106, 11, 45, false, 1235), ("CourtProgressModel", 109, 11, 46, false, 1236), ("CourtProgressModel", 113, 11, 47, false, 1237), ("CourtProgressModel", 116, 11, 48, false, 1238), ("CourtProgressModel", 119, 11, 49, false, 1239), ("CourtProgressModel", 122, 11, 50, false, 1240), ("CourtProgressModel", 125, 11, 51, false, 1241), ("CourtProgressModel", 128, 11, 53, false, 1243), ("CourtProgressModel", 131, 11, 54, false, 1244), ("CourtProgressModel", 134, 11, 55, false, 1245), ("CourtProgressModel", 137, 11, 56, false, 1246), ("CourtProgressModel", 141, 11, 58, false, 1248), ("CourtProgressModel", 144, 11, 59, false, 1249), ("CourtProgressModel", 147, 11, 60, false, 1250), ("CourtProgressModel", 150, 11, 63, false, 1253), ("CourtProgressModel", 153, 11, 4, false, 1194), ("CourtProgressModel", 156, 11, 5, false, 1195), ("CourtProgressModel", 1, 11, 0, false, 1190), ("CourtProgressModel", 188, 11, 6, false, 1196), ("CourtProgressModel", 193, 10, 6, true, 1170), ("CourtProgressModel", 196, 11, 37, false, 1227), ("CourtProgressModel", 199, 10, 7, true, 1171), ("CourtProgressModel", 200, 11, 34, false, 1224), ("CourtProgressModel", 215, 11, 35, false, 1225), ("CourtProgressModel", 221, 11, 36, false, 1226), ("CourtProgressModel", 224, 11, 38, false, 1228), ("CourtProgressModel", 230, 11, 40, false, 1230), ("CourtProgressModel", 237, 11, 39, false, 1229), ("CourtProgressModel", 266, 11, 41, false, 1231), ("CourtProgressModel", 285, 11, 33, false, 1223), ("CourtProgressModel", 288, 11, 3, false, 1193), ("CourtProgressModel", 318, 11, 52, false, 1242), ("CourtProgressModel", 338, 11, 57, false, 1247), ("CourtProgressModel", 341, 11, 8, false, 1198), ("CourtProgressModel", 363, 11, 61, false, 1251), ("CourtProgressModel", 366, 11, 62, false, 1252), ("CourtProgressModel", 369, 11, 7, false, 1197)]
def ai_fw (r : String × Nat × Nat × Nat × Bool × Nat) : Cond := match ai_C r.2.2.1 with
  | (C, T, _) => bif r.2.2.2.2.1 then .fieldLinkNest r.1 r.2.1 (T r.2.2.2.1).1 (T r.2.2.2.1).2.1 (T r.2.2.2.1).2.2.1 "CourtProgressModel" else .fieldLink r.1 r.2.1 (T r.2.2.2.1).1 (T r.2.2.2.1).2.1 (T r.2.2.2.1).2.2.1
/-- a method link: who asks, its entry, the method, how many values, the receiver's kind, 0 virtual 1 static 2 special, by nest or not, the places of its words -/
def ai_mlt : List (String × Nat × Nat × Nat × Nat × Nat × Bool × List Nat) := [("CourtProgress$Calendar", 18, 211, 2, 999, 1, false, [550, 551, 101]),
  ("CourtProgress$Calendar", 24, 141, 1, 999, 1, true, [565, 544, 86]),
  ("CourtProgress$Calendar", 32, 3, 2, 0, 0, false, [561, 562, 563, 89]),
  ("CourtProgress$Households", 28, 7, 2, 1, 0, false, [504, 493, 494, 87]),
  ("CourtProgress$Lodger", 53, 7, 2, 1, 0, false, [942, 493, 494, 87]),
  ("CourtProgress$Lodger", 59, 33, 2, 3, 0, false, [855, 523, 524, 88]),
  ("CourtProgress$Lodger", 69, 11, 1, 1, 0, false, [856, 857, 858, 87]),
  ("CourtProgress$Lodger", 76, 16, 3, 2, 0, false, [860, 862, 29, 93]),
  ("CourtProgress$Lodger", 80, 18, 4, 2, 0, false, [864, 866, 30, 93]),
  ("CourtProgress$Lodger", 91, 17, 1, 2, 0, false, [887, 889, 34, 93]),
  ("CourtProgress$Lodger", 94, 23, 4, 2, 0, false, [891, 893, 35, 93]),
  ("CourtProgress$Lodger", 103, 19, 2, 2, 0, false, [868, 870, 31, 93]),
  ("CourtProgress$Lodger", 107, 20, 1, 2, 0, false, [872, 874, 32, 93]),
  ("CourtProgress$Lodger", 110, 10, 1, 1, 0, false, [876, 877, 878, 87]),
  ("CourtProgress$Lodger", 114, 21, 5, 2, 0, false, [880, 882, 33, 93]),
  ("CourtProgress$Lodger", 127, 22, 2, 999, 1, false, [884, 885, 93]),
  ("CourtProgress$Lodger", 131, 24, 2, 2, 0, false, [895, 897, 36, 93]),
  ("CourtProgress$Lodger", 134, 25, 4, 2, 0, false, [899, 901, 37, 93]),
  ("CourtProgress$Lodger", 138, 28, 5, 2, 0, false, [922, 924, 40, 93]),
  ("CourtProgress$Lodger", 142, 143, 1, 999, 1, true, [903, 904, 86]),
  ("CourtProgress$Lodger", 146, 26, 4, 2, 0, false, [912, 914, 38, 93]),
  ("CourtProgress$Lodger", 149, 27, 3, 2, 0, false, [917, 919, 39, 93]),
  ("CourtProgress$Lodger", 153, 210, 1, 999, 1, false, [916, 907, 106]),
  ("CourtProgress$Lodger", 164, 30, 5, 2, 0, false, [930, 932, 41, 93]),
  ("CourtProgress$Lodger", 167, 31, 2, 2, 0, false, [934, 936, 42, 93]),
  ("CourtProgress$Places", 46, 33, 2, 3, 0, false, [530, 523, 524, 88]),
  ("CourtProgress$Places", 50, 212, 2, 999, 1, false, [978, 596, 101]),
  ("CourtProgress$Places", 56, 38, 2, 3, 0, false, [1051, 975, 976, 88]),
  ("CourtProgress$Pleas", 28, 212, 2, 999, 1, false, [1088, 596, 101]),
  ("CourtProgress$Router", 46, 33, 2, 3, 0, false, [963, 523, 524, 88]),
  ("CourtProgress$Router", 61, 49, 1, 5, 0, false, [964, 966, 43, 94]),
  ("CourtProgress$Router", 64, 303, 1, 5, 0, false, [984, 986, 46, 94]),
  ("CourtProgress$Router", 71, 52, 5, 5, 0, false, [989, 991, 47, 94]),
  ("CourtProgress$Router", 75, 81, 2, 7, 0, false, [968, 840, 841, 90]),
  ("CourtProgress$Router", 81, 2, 2, 0, 0, false, [969, 811, 812, 89]),
  ("CourtProgress$Router", 89, 50, 3, 5, 0, false, [970, 972, 44, 94]),
  ("CourtProgress$Router", 93, 38, 2, 3, 0, false, [974, 975, 976, 88]),
  ("CourtProgress$Router", 96, 51, 3, 5, 0, false, [979, 981, 45, 94]),
  ("CourtProgress$Router", 100, 3, 2, 0, 0, false, [983, 562, 563, 89]),
  ("CourtProgress$Router", 103, 214, 3, 5, 0, false, [993, 995, 48, 94]),
  ("CourtProgress$Router", 106, 53, 4, 5, 0, false, [997, 999, 49, 94]),
  ("CourtProgress$Router", 110, 212, 2, 999, 1, false, [1018, 596, 101]),
  ("CourtProgress$Router", 115, 56, 4, 5, 0, false, [1001, 1003, 50, 94]),
  ("CourtProgress$Router", 118, 54, 6, 5, 0, false, [1006, 1008, 51, 94]),
  ("CourtProgress$Router", 123, 37, 4, 3, 0, false, [1010, 1011, 1012, 88]),
  ("CourtProgress$Router", 126, 55, 4, 5, 0, false, [1014, 1016, 52, 94]),
  ("CourtProgress$Router", 130, 58, 6, 5, 0, false, [1024, 1026, 53, 94]),
  ("CourtProgress$Scribe", 24, 92, 2, 8, 0, false, [700, 701, 702, 91]),
  ("CourtProgress$Scribe", 33, 73, 1, 7, 0, false, [704, 705, 706, 90]),
  ("CourtProgress$Scribe", 38, 62, 2, 6, 0, false, [708, 710, 13, 92]),
  ("CourtProgress$Scribe", 42, 71, 2, 6, 0, false, [712, 714, 14, 92]),
  ("CourtProgress$Scribe", 45, 67, 1, 6, 0, false, [727, 729, 16, 92]),
  ("CourtProgress$Scribe", 48, 93, 2, 8, 0, false, [784, 785, 786, 91]),
  ("CourtProgress$Scribe", 51, 74, 1, 7, 0, false, [716, 717, 718, 90]),
  ("CourtProgress$Scribe", 54, 63, 1, 6, 0, false, [723, 725, 15, 92]),
  ("CourtProgress$Scribe", 58, 75, 2, 7, 0, false, [751, 752, 753, 90]),
  ("CourtProgress$Scribe", 62, 65, 1, 6, 0, false, [755, 757, 21, 92]),
  ("CourtProgress$Scribe", 65, 69, 1, 6, 0, false, [731, 733, 17, 92]),
  ("CourtProgress$Scribe", 68, 70, 1, 6, 0, false, [735, 737, 18, 92]),
  ("CourtProgress$Scribe", 71, 64, 1, 6, 0, false, [739, 741, 19, 92]),
  ("CourtProgress$Scribe", 74, 68, 1, 6, 0, false, [743, 745, 20, 92]),
  ("CourtProgress$Scribe", 77, 76, 4, 7, 0, false, [747, 748, 749, 90]),
  ("CourtProgress$Scribe", 81, 66, 1, 6, 0, false, [759, 761, 22, 92]),
  ("CourtProgress$Scribe", 84, 77, 3, 7, 0, false, [763, 764, 765, 90]),
  ("CourtProgress$Statutes", 36, 88, 2, 999, 1, false, [720, 721, 90]),
  ("CourtProgress$Statutes", 43, 79, 2, 7, 0, false, [804, 793, 794, 90]),
  ("CourtProgress$Statutes", 47, 7, 2, 1, 0, false, [805, 493, 494, 87]),
  ("CourtProgress$Statutes", 53, 82, 2, 7, 0, false, [806, 808, 23, 90]),
  ("CourtProgress$Statutes", 57, 83, 2, 7, 0, false, [815, 817, 24, 90]),
  ("CourtProgress$Statutes", 60, 84, 3, 7, 0, false, [819, 821, 25, 90]),
  ("CourtProgress$Statutes", 72, 213, 2, 999, 1, false, [844, 845, 101]),
  ("CourtProgress$Statutes", 78, 2, 2, 0, 0, false, [810, 811, 812, 89]),
  ("CourtProgress$Statutes", 83, 3, 2, 0, 0, false, [814, 562, 563, 89]),
  ("CourtProgress$Statutes", 89, 85, 2, 7, 0, false, [823, 825, 26, 90]),
  ("CourtProgress$Statutes", 92, 86, 2, 7, 0, false, [831, 833, 28, 90]),
  ("CourtProgress$Statutes", 95, 87, 2, 7, 0, false, [827, 829, 27, 90]),
  ("CourtProgress$Tape", 28, 212, 2, 999, 1, false, [595, 596, 101]),
  ("CourtProgress$Tape", 34, 211, 2, 999, 1, false, [598, 551, 101]),
  ("CourtProgress$Tape", 40, 95, 2, 8, 0, false, [599, 601, 4, 91]),
  ("CourtProgress$Tape", 44, 96, 2, 8, 0, false, [607, 609, 6, 91]),
  ("CourtProgress$Tape", 47, 97, 3, 8, 0, false, [619, 621, 9, 91]),
  ("CourtProgress$Tape", 50, 215, 2, 8, 0, false, [603, 605, 5, 91]),
  ("CourtProgress$Tape", 53, 101, 2, 8, 0, false, [611, 613, 7, 91]),
  ("CourtProgress$Tape", 57, 102, 2, 8, 0, false, [615, 617, 8, 91]),
  ("CourtProgress$Tape", 60, 99, 3, 8, 0, false, [623, 625, 10, 91]),
  ("CourtProgress$Tape", 63, 98, 3, 8, 0, false, [689, 691, 12, 91]),
  ("CourtProgress$Tape", 66, 103, 1, 999, 1, false, [693, 694, 91]),
  ("CourtProgress$Tape", 71, 100, 4, 8, 0, false, [628, 630, 11, 91]),
  ("CourtProgress$Tape", 95, 300, 1, 998, 0, false, [632, 633, 634, 102]),
  ("CourtProgress$Tape", 100, 301, 2, 998, 0, false, [642, 643, 644, 102]),
  ("CourtProgress", 21, 6, 1, 1, 2, true, [117, 118, 87]),
  ("CourtProgress", 28, 32, 1, 3, 2, true, [149, 150, 88]),
  ("CourtProgress", 35, 0, 1, 0, 2, false, [199, 200, 89]),
  ("CourtProgress", 42, 72, 3, 7, 2, false, [216, 217, 90]),
  ("CourtProgress", 51, 89, 1, 8, 2, true, [248, 249, 91]),
  ("CourtProgress", 58, 59, 3, 6, 2, false, [274, 275, 92]),
  ("CourtProgress", 67, 12, 3, 2, 2, false, [297, 298, 93]),
  ("CourtProgress", 76, 46, 4, 5, 2, false, [352, 353, 94]),
  ("CourtProgress", 85, 41, 1, 4, 2, true, [401, 402, 95]),
  ("CourtProgress", 100, 142, 3, 999, 1, false, [473, 474, 86]),
  ("CourtProgress", 104, 136, 2, 9, 0, false, [476, 478, 0, 86]),
  ("CourtProgress", 111, 8, 4, 1, 0, false, [480, 481, 482, 87]),
  ("CourtProgress", 115, 137, 2, 9, 0, false, [484, 486, 1, 86]),
  ("CourtProgress", 118, 7, 2, 1, 0, false, [492, 493, 494, 87]),
  ("CourtProgress", 122, 138, 2, 9, 0, false, [496, 498, 2, 86]),
  ("CourtProgress", 125, 9, 4, 1, 0, false, [500, 501, 502, 87]),
  ("CourtProgress", 129, 139, 1, 9, 0, false, [505, 507, 3, 86]),
  ("CourtProgress", 135, 34, 4, 3, 0, false, [514, 515, 516, 88]),
  ("CourtProgress", 136, 33, 2, 3, 0, false, [522, 523, 524, 88]),
  ("CourtProgress", 140, 35, 5, 3, 0, false, [526, 527, 528, 88]),
  ("CourtProgress", 144, 36, 4, 3, 0, false, [535, 536, 537, 88]),
  ("CourtProgress", 148, 141, 1, 999, 1, false, [543, 544, 86]),
  ("CourtProgress", 151, 1, 4, 0, 0, false, [546, 547, 548, 89]),
  ("CourtProgress", 154, 4, 2, 0, 0, false, [557, 558, 559, 89]),
  ("CourtProgress", 157, 5, 3, 0, 0, false, [566, 567, 568, 89]),
  ("CourtProgress", 169, 90, 1, 8, 0, false, [579, 580, 581, 91]),
  ("CourtProgress", 172, 91, 2, 8, 0, false, [583, 584, 585, 91]),
  ("CourtProgress", 177, 94, 2, 8, 0, false, [591, 592, 593, 91]),
  ("CourtProgress", 180, 60, 1, 6, 0, false, [696, 697, 698, 92]),
  ("CourtProgress", 184, 78, 2, 7, 0, false, [767, 768, 769, 90]),
  ("CourtProgress", 190, 61, 1, 6, 0, false, [780, 781, 782, 92]),
  ("CourtProgress", 194, 79, 2, 7, 0, false, [792, 793, 794, 90]),
  ("CourtProgress", 197, 80, 4, 7, 0, false, [800, 801, 802, 90]),
  ("CourtProgress", 201, 81, 2, 7, 0, false, [839, 840, 841, 90]),
  ("CourtProgress", 204, 15, 2, 2, 0, false, [851, 852, 853, 93]),
  ("CourtProgress", 207, 29, 2, 2, 0, false, [926, 927, 928, 93]),
  ("CourtProgress", 210, 13, 2, 2, 0, false, [938, 939, 940, 93]),
  ("CourtProgress", 213, 14, 2, 2, 0, false, [951, 952, 953, 93]),
  ("CourtProgress", 216, 48, 4, 5, 0, false, [959, 960, 961, 94]),
  ("CourtProgress", 219, 57, 2, 5, 0, false, [1020, 1021, 1022, 94]),
  ("CourtProgress", 222, 47, 2, 5, 0, false, [1032, 1033, 1034, 94]),
  ("CourtProgress", 225, 38, 2, 3, 0, false, [1040, 975, 976, 88]),
  ("CourtProgress", 228, 2, 2, 0, 0, false, [1045, 811, 812, 89]),
  ("CourtProgress", 231, 37, 4, 3, 0, false, [1046, 1011, 1012, 88]),
  ("CourtProgress", 234, 39, 3, 3, 0, false, [1047, 1048, 1049, 88]),
  ("CourtProgress", 238, 40, 3, 3, 0, false, [1056, 1057, 1058, 88]),
  ("CourtProgress", 241, 140, 2, 9, 0, false, [1064, 1066, 54, 86]),
  ("CourtProgress", 245, 42, 3, 4, 0, false, [1076, 1077, 1078, 95]),
  ("CourtProgress", 247, 43, 3, 4, 0, false, [1084, 1085, 1086, 95]),
  ("CourtProgress", 250, 44, 2, 4, 0, false, [1093, 1094, 1095, 95]),
  ("CourtProgress", 253, 45, 2, 4, 0, false, [1101, 1102, 1103, 95]),
  ("CourtProgress", 262, 210, 1, 999, 1, false, [906, 907, 106]),
  ("CourtProgressModel", 88, 302, 1, 10, 2, false, [1158, 1159, 100]),
  ("CourtProgressModel", 159, 148, 3, 999, 1, false, [1388, 1389, 96]),
  ("CourtProgressModel", 163, 144, 2, 11, 0, false, [1391, 1393, 56, 96]),
  ("CourtProgressModel", 167, 146, 2, 11, 0, false, [1395, 1397, 57, 96]),
  ("CourtProgressModel", 170, 150, 2, 11, 0, false, [1403, 1405, 58, 96]),
  ("CourtProgressModel", 174, 145, 2, 11, 0, false, [1407, 1409, 59, 96]),
  ("CourtProgressModel", 177, 147, 1, 11, 0, false, [1411, 1413, 60, 96]),
  ("CourtProgressModel", 182, 151, 2, 11, 0, false, [1424, 1426, 61, 96]),
  ("CourtProgressModel", 185, 152, 1, 999, 1, false, [1440, 1441, 96]),
  ("CourtProgressModel", 203, 300, 1, 998, 0, false, [1483, 633, 634, 102]),
  ("CourtProgressModel", 211, 301, 2, 998, 0, false, [1484, 643, 644, 102]),
  ("CourtProgressModel", 218, 162, 2, 11, 0, false, [1464, 1466, 64, 96]),
  ("CourtProgressModel", 227, 163, 1, 999, 1, false, [1468, 1469, 96]),
  ("CourtProgressModel", 234, 164, 1, 999, 1, false, [1472, 1473, 96]),
  ("CourtProgressModel", 240, 165, 1, 999, 1, false, [1480, 1481, 96]),
  ("CourtProgressModel", 246, 167, 2, 11, 0, false, [1476, 1478, 65, 96]),
  ("CourtProgressModel", 255, 161, 2, 11, 0, false, [1487, 1489, 66, 96]),
  ("CourtProgressModel", 269, 166, 1, 11, 0, false, [1460, 1462, 63, 96]),
  ("CourtProgressModel", 272, 171, 2, 11, 0, false, [1491, 1493, 67, 96]),
  ("CourtProgressModel", 276, 172, 2, 11, 0, false, [1510, 1512, 70, 96]),
  ("CourtProgressModel", 279, 168, 2, 11, 0, false, [1506, 1508, 69, 96]),
  ("CourtProgressModel", 282, 169, 1, 11, 0, false, [1495, 1497, 68, 96]),
  ("CourtProgressModel", 291, 170, 1, 11, 0, false, [1456, 1458, 62, 96]),
  ("CourtProgressModel", 294, 177, 2, 11, 0, false, [1526, 1528, 71, 96]),
  ("CourtProgressModel", 297, 211, 2, 999, 1, false, [1538, 551, 101]),
  ("CourtProgressModel", 303, 179, 4, 11, 0, false, [1539, 1541, 73, 96]),
  ("CourtProgressModel", 307, 180, 4, 11, 0, false, [1534, 1536, 72, 96]),
  ("CourtProgressModel", 311, 213, 2, 999, 1, false, [1551, 845, 101]),
  ("CourtProgressModel", 315, 182, 2, 11, 0, false, [1547, 1549, 74, 96]),
  ("CourtProgressModel", 321, 184, 5, 11, 0, false, [1564, 1566, 77, 96]),
  ("CourtProgressModel", 325, 185, 6, 11, 0, false, [1560, 1562, 76, 96]),
  ("CourtProgressModel", 329, 212, 2, 999, 1, false, [1572, 596, 101]),
  ("CourtProgressModel", 331, 187, 2, 11, 0, false, [1556, 1558, 75, 96]),
  ("CourtProgressModel", 334, 186, 2, 11, 0, false, [1568, 1570, 78, 96]),
  ("CourtProgressModel", 344, 192, 3, 11, 0, false, [1598, 1600, 82, 96]),
  ("CourtProgressModel", 348, 193, 6, 11, 0, false, [1602, 1604, 83, 96]),
  ("CourtProgressModel", 352, 194, 5, 11, 0, false, [1590, 1592, 80, 96]),
  ("CourtProgressModel", 356, 191, 4, 11, 0, false, [1594, 1596, 81, 96]),
  ("CourtProgressModel", 359, 195, 4, 11, 0, false, [1586, 1588, 79, 96]),
  ("CourtProgressModel", 372, 204, 2, 11, 0, false, [1638, 1640, 84, 96])]
def ai_mw (r : String × Nat × Nat × Nat × Nat × Nat × Bool × List Nat) : List Cond := (bif r.2.2.2.2.2.2.1 then Cond.methodLinkNest r.1 r.2.1 (ai_y r.2.2.1) "CourtProgress" else Cond.methodLink r.1 r.2.1 (ai_y r.2.2.1)) :: (match r.2.2.2.2.2.1 with
  | 0 => [.instanceMethod (ai_y r.2.2.1), .selects (ai_y r.2.2.1).cls (ai_y r.2.2.1) (ai_y r.2.2.1), .initialized (ai_y r.2.2.1).cls]
  | 1 => [.static (ai_y r.2.2.1), .initialized (ai_y r.2.2.1).cls]
  | _ => [.instanceMethod (ai_y r.2.2.1), .initialized (ai_y r.2.2.1).cls])
def ai_oit : List (String × Nat × Nat) := [("CourtProgress", 1, 112), ("CourtProgress$Households", 3, 120), ("CourtProgress$Places", 3, 152), ("CourtProgress$Calendar", 3, 202), ("CourtProgress$Statutes", 5, 219), ("CourtProgress$Tape", 3, 251), ("CourtProgress$Scribe", 1, 277), ("CourtProgress$Lodger", 3, 300), ("CourtProgress$Router", 3, 355), ("CourtProgress$Pleas", 3, 404), ("CourtProgressModel", 13, 1118)]
def ai_clt : List (String × Nat × Nat × List Nat) := [("CourtProgress", 19, 1, [115, 116, 87]), ("CourtProgress", 26, 3, [147, 148, 88]), ("CourtProgress", 33, 0, [197, 198, 89]), ("CourtProgress", 40, 7, [214, 215, 90]), ("CourtProgress", 49, 8, [246, 247, 91]), ("CourtProgress", 56, 6, [272, 273, 92]), ("CourtProgress", 65, 2, [295, 296, 93]), ("CourtProgress", 74, 5, [350, 351, 94]), ("CourtProgress", 83, 4, [399, 400, 95]), ("CourtProgressModel", 86, 10, [1119, 1120, 100])]
def ai_cw (r : String × Nat × Nat × List Nat) : List Cond := [.classLink r.1 r.2.1 (ai_C r.2.2.1).1, .instantiable (ai_C r.2.2.1).1 (ai_C r.2.2.1).2.2, .initialized (ai_C r.2.2.1).1]
def ai_kst : List (Cond × Nat) := [(.constant "CourtProgress" 133 (1000000 : Int32), 513), (.constant "java/lang/Integer" 265 (1431655765 : Int32), 909), (.constant "java/lang/Integer" 266 (858993459 : Int32), 910), (.constant "java/lang/Integer" 267 (252645135 : Int32), 911), (.constant "CourtProgress$Lodger" 84 (1000000 : Int32), 921), (.constant "CourtProgress$Router" 70 (65536 : Int32), 988), (.constant "CourtProgress$Router" 129 (65024 : Int32), 1005), (.constant "CourtProgress$Router" 122 (-65281 : Int32), 1019), (.constant "CourtProgressModel" 140 (101376 : Int32), 1189), (.constant "CourtProgressModel" 181 (1000000 : Int32), 1419), (.constant "CourtProgressModel" 337 (1000000000 : Int32), 1573), (.constantLong "CourtProgress" 167 (1000000 : Int64), 574), (.constantLong "CourtProgress$Statutes" 70 (1000000 : Int64), 843), (.constantLong "CourtProgressModel" 191 (1000000 : Int64), 1447), (.constantLong "CourtProgressModel" 209 (32 : Int64), 1471)]
def ai_stk : List (String × Nat × Nat × String × Nat) := [("CourtProgress$Tape", 69, 0, "rank", 627), ("CourtProgress$Tape", 77, 1, "mouths", 680), ("CourtProgress$Tape", 79, 2, "horses", 681), ("CourtProgress$Tape", 81, 3, "day", 682), ("CourtProgress$Tape", 83, 4, "mud", 683), ("CourtProgress$Tape", 85, 5, "feast", 684), ("CourtProgress$Tape", 87, 6, "when", 685), ("CourtProgress$Tape", 89, 7, "and", 686), ("CourtProgress$Tape", 91, 8, "eats", 687), ("CourtProgress$Tape", 93, 9, "feeds", 688), ("CourtProgressModel", 244, 6, "when", 1475), ("CourtProgressModel", 252, 8, "eats", 1485), ("CourtProgressModel", 254, 9, "feeds", 1486), ("CourtProgressModel", 250, 7, "and", 1499), ("CourtProgressModel", 258, 0, "rank", 1500), ("CourtProgressModel", 259, 1, "mouths", 1501), ("CourtProgressModel", 260, 2, "horses", 1502), ("CourtProgressModel", 261, 3, "day", 1503), ("CourtProgressModel", 263, 4, "mud", 1504), ("CourtProgressModel", 264, 5, "feast", 1505)]
def ai_txs : List String := ["rank", "mouths", "horses", "day", "mud", "feast", "when", "and", "eats", "feeds"]
/-- a word at its place of the law's table, one that warming keeps -/
def ai_wat (w : Cond) (i : Nat) : Bool := decide (lw_tbl[i]? = some w) && goodWord w
def ai_wan (w : Cond) (i : Nat) : Bool := decide (lw_tbl[i]? = some w) && w.onTables
def ai_was : List Cond → List Nat → Bool
  | [], _ => true
  | w :: ws, i :: is => ai_wat w i && ai_was ws is
  | _ :: _, [] => false
theorem ai_wat_in {w : Cond} {i : Nat} (h : ai_wat w i = true) : w ∈ lw_tbl ∧ goodWord w = true := by
  simp only [ai_wat, Bool.and_eq_true, decide_eq_true_eq] at h
  exact ⟨List.mem_of_getElem? h.1, h.2⟩
theorem ai_was_in : ∀ {ws : List Cond} {is : List Nat}, ai_was ws is = true → ∀ w ∈ ws, w ∈ lw_tbl ∧ goodWord w = true
  | [], _, _, w, h => by cases h
  | v :: ws, i :: is, h, w, hw => by
    simp only [ai_was, Bool.and_eq_true] at h
    rcases List.mem_cons.mp hw with rfl | hw
    · exact ai_wat_in h.1
    · exact ai_was_in h.2 w hw
  | _ :: _, [], h, _, _ => by simp [ai_was] at h
theorem ai_flt_ok : (ai_flt.all fun r => bif r.2.2.2.2.1 then ai_wan (ai_fw r) r.2.2.2.2.2 else ai_wat (ai_fw r) r.2.2.2.2.2) = true := by decide +kernel
theorem ai_mlt_ok : (ai_mlt.all fun r => bif r.2.2.2.2.2.2.1 then ai_wan ((ai_mw r).headD .tt) (r.2.2.2.2.2.2.2.headD 0) && ai_was (ai_mw r).tail r.2.2.2.2.2.2.2.tail else ai_was (ai_mw r) r.2.2.2.2.2.2.2) = true := by decide +kernel
theorem ai_mlt_n : (ai_mlt.all fun r => decide ((ai_y r.2.2.1).cls ≠ "java/lang/invoke/MethodHandle") && (decide ((ai_y r.2.2.1).cls ≠ "java/lang/invoke/VarHandle") && (decide ((parseMethodDescriptor (ai_y r.2.2.1).desc).map (fun d => d.parameters.length) = some (bif Nat.beq r.2.2.2.2.2.1 1 then r.2.2.2.1 else r.2.2.2.1 - 1)) && decide (r.2.2.2.2.2.1 = 2 → (ai_y r.2.2.1).name = "<init>")))) = true := by decide +kernel
theorem ai_oit_ok : (ai_oit.all fun r => ai_wat (.methodLink r.1 r.2.1 Lib.objectInit) r.2.2) = true := by decide +kernel
theorem ai_clt_ok : (ai_clt.all fun r => ai_was (ai_cw r) r.2.2.2) = true := by decide +kernel
theorem ai_kst_ok : (ai_kst.all fun q => ai_wat q.1 q.2) = true := by decide +kernel
theorem ai_stk_ok : (ai_stk.all fun q => decide (lw_tbl[q.2.2.2.2]? = some (.stringRef q.1 q.2.1 q.2.2.2.1))) = true := by decide +kernel
theorem ai_oiw : ai_was [.instanceMethod Lib.objectInit, .arrayClass .int, .arrayClass .byte, .arrayClass .boolean] [113, 146, 771, 1383] = true := by decide +kernel
theorem ai_inX0 : ∀ w ∈ u_ws RX0 TX0 3, w ∈ lw_tbl ∧ goodWord w = true := by decide +kernel
theorem ai_inX1 : ∀ w ∈ u_ws RX1 TX1 5, w ∈ lw_tbl ∧ goodWord w = true := by decide +kernel
theorem ai_inX2 : ∀ w ∈ u_ws RX2 TX2 16, w ∈ lw_tbl ∧ goodWord w = true := by decide +kernel
theorem ai_inX3 : ∀ w ∈ u_ws RX3 TX3 11, w ∈ lw_tbl ∧ goodWord w = true := by decide +kernel
theorem ai_inX4 : ∀ w ∈ u_ws RX4 TX4 5, w ∈ lw_tbl ∧ goodWord w = true := by decide +kernel
theorem ai_inX5 : ∀ w ∈ u_ws RX5 TX5 14, w ∈ lw_tbl ∧ goodWord w = true := by decide +kernel
theorem ai_inX6 : ∀ w ∈ u_ws RX6 TX6 5, w ∈ lw_tbl ∧ goodWord w = true := by decide +kernel
theorem ai_inX7 : ∀ w ∈ u_ws RX7 TX7 8, w ∈ lw_tbl ∧ goodWord w = true := by decide +kernel
theorem ai_inX8 : ∀ w ∈ u_ws RX8 TX8 6, w ∈ lw_tbl ∧ goodWord w = true := by decide +kernel
theorem ai_inX9 : ∀ w ∈ u_ws RX9 TX9 15, w ∈ lw_tbl ∧ goodWord w = true := by decide +kernel
theorem ai_inX10 : ∀ w ∈ u_ws RX10 TX10 8, w ∈ lw_tbl ∧ goodWord w = true := by decide +kernel
theorem ai_inX11 : ∀ w ∈ u_ws RX11 TX11 64, w ∈ lw_tbl ∧ goodWord w = true := by decide +kernel
theorem ai_cl_in : ∀ q ∈ ai_cl, ∀ w ∈ u_ws q.1 q.2.1 q.2.2, w ∈ lw_tbl ∧ goodWord w = true := List.forall_mem_cons.mpr ⟨ai_inX0, List.forall_mem_cons.mpr ⟨ai_inX1, List.forall_mem_cons.mpr ⟨ai_inX2, List.forall_mem_cons.mpr ⟨ai_inX3, List.forall_mem_cons.mpr ⟨ai_inX4, List.forall_mem_cons.mpr ⟨ai_inX5, List.forall_mem_cons.mpr ⟨ai_inX6, List.forall_mem_cons.mpr ⟨ai_inX7, List.forall_mem_cons.mpr ⟨ai_inX8, List.forall_mem_cons.mpr ⟨ai_inX9, List.forall_mem_cons.mpr ⟨ai_inX10, List.forall_mem_cons.mpr ⟨ai_inX11, fun _ h => absurd h List.not_mem_nil⟩⟩⟩⟩⟩⟩⟩⟩⟩⟩⟩⟩
theorem ai_t1_in {w : Cond} (h : w ∈ tables_1_1) : w ∈ lw_tbl := List.mem_append_right _ (List.mem_append_left _ h)
theorem ai_t2_in {w : Cond} (h : w ∈ tables_1_2) : w ∈ lw_tbl := List.mem_append_right _ (List.mem_append_right _ (List.mem_append_left _ h))
theorem ai_t3_in {w : Cond} (h : w ∈ tables_1_3) : w ∈ lw_tbl := List.mem_append_right _ (List.mem_append_right _ (List.mem_append_right _ (List.mem_append_left _ h)))
theorem ai_t4_in {w : Cond} (h : w ∈ tables_1_4) : w ∈ lw_tbl := List.mem_append_right _ (List.mem_append_right _ (List.mem_append_right _ (List.mem_append_right _ (List.mem_append_left _ h))))
theorem ai_t5_in {w : Cond} (h : w ∈ tables_1_5) : w ∈ lw_tbl := List.mem_append_right _ (List.mem_append_right _ (List.mem_append_right _ (List.mem_append_right _ (List.mem_append_right _ (List.mem_append_left _ h)))))
theorem ai_t6_in {w : Cond} (h : w ∈ tables_1_6) : w ∈ lw_tbl := List.mem_append_right _ (List.mem_append_right _ (List.mem_append_right _ (List.mem_append_right _ (List.mem_append_right _ (List.mem_append_right _ (List.mem_append_left _ h))))))
theorem ai_t7_in {w : Cond} (h : w ∈ tables_1_7) : w ∈ lw_tbl := List.mem_append_right _ (List.mem_append_right _ (List.mem_append_right _ (List.mem_append_right _ (List.mem_append_right _ (List.mem_append_right _ (List.mem_append_right _ (h)))))))
set_option maxRecDepth 4000 in
theorem ai_cd_0 : Cond.code yX0_init cX0_init 2 none ∈ lw_tbl := ai_t1_in (List.mem_of_getElem? (i := 116) rfl)
set_option maxRecDepth 4000 in
theorem ai_cd_1 : Cond.code yX0_setMud cX0_setMud 5 none ∈ lw_tbl := ai_t2_in (List.mem_of_getElem? (i := 224) rfl)
set_option maxRecDepth 4000 in
theorem ai_cd_2 : Cond.code yX0_mudOf cX0_mudOf 2 (some .int) ∈ lw_tbl := ai_t4_in (List.mem_of_getElem? (i := 8) rfl)
set_option maxRecDepth 4000 in
theorem ai_cd_3 : Cond.code yX0_feastOf cX0_feastOf 2 (some .int) ∈ lw_tbl := ai_t2_in (List.mem_of_getElem? (i := 239) rfl)
set_option maxRecDepth 4000 in
theorem ai_cd_4 : Cond.code yX0_hasRoomForFeast cX0_hasRoomForFeast 2 (some .boolean) ∈ lw_tbl := ai_t2_in (List.mem_of_getElem? (i := 235) rfl)
set_option maxRecDepth 4000 in
theorem ai_cd_5 : Cond.code yX0_setFeast cX0_setFeast 3 none ∈ lw_tbl := ai_t3_in (List.mem_of_getElem? (i := 4) rfl)
set_option maxRecDepth 4000 in
theorem ai_cd_6 : Cond.code yX1_init cX1_init 1 none ∈ lw_tbl := ai_t1_in (List.mem_of_getElem? (i := 34) rfl)
set_option maxRecDepth 4000 in
theorem ai_cd_7 : Cond.code yX1_has cX1_has 2 (some .boolean) ∈ lw_tbl := ai_t2_in (List.mem_of_getElem? (i := 170) rfl)
set_option maxRecDepth 4000 in
theorem ai_cd_8 : Cond.code yX1_add cX1_add 4 (some .int) ∈ lw_tbl := ai_t2_in (List.mem_of_getElem? (i := 158) rfl)
set_option maxRecDepth 4000 in
theorem ai_cd_9 : Cond.code yX1_setBar cX1_setBar 4 none ∈ lw_tbl := ai_t2_in (List.mem_of_getElem? (i := 178) rfl)
set_option maxRecDepth 4000 in
theorem ai_cd_10 : Cond.code yX1_ranksDiffer cX1_ranksDiffer 2 (some .boolean) ∈ lw_tbl := ai_t4_in (List.mem_of_getElem? (i := 74) rfl)
set_option maxRecDepth 4000 in
theorem ai_cd_11 : Cond.code yX1_allHorses cX1_allHorses 3 (some .int) ∈ lw_tbl := ai_t4_in (List.mem_of_getElem? (i := 54) rfl)
set_option maxRecDepth 4000 in
theorem ai_cd_12 : Cond.code yX2_init cX2_init 3 none ∈ lw_tbl := ai_t1_in (List.mem_of_getElem? (i := 214) rfl)
set_option maxRecDepth 4000 in
theorem ai_cd_13 : Cond.code yX2_roomOf cX2_roomOf 2 (some .int) ∈ lw_tbl := ai_t4_in (List.mem_of_getElem? (i := 136) rfl)
set_option maxRecDepth 4000 in
theorem ai_cd_14 : Cond.code yX2_reasonAgainst cX2_reasonAgainst 2 (some .int) ∈ lw_tbl := ai_t4_in (List.mem_of_getElem? (i := 149) rfl)
set_option maxRecDepth 4000 in
theorem ai_cd_15 : Cond.code yX2_leastSum cX2_leastSum 2 (some .int) ∈ lw_tbl := ai_t4_in (List.mem_of_getElem? (i := 49) rfl)
set_option maxRecDepth 4000 in
theorem ai_cd_16 : Cond.code yX2_isPossible cX2_isPossible 3 (some .boolean) ∈ lw_tbl := ai_t4_in (List.mem_of_getElem? (i := 58) rfl)
set_option maxRecDepth 4000 in
theorem ai_cd_17 : Cond.code yX2_everyone cX2_everyone 1 (some .int) ∈ lw_tbl := ai_t4_in (List.mem_of_getElem? (i := 85) rfl)
set_option maxRecDepth 4000 in
theorem ai_cd_18 : Cond.code yX2_prepare cX2_prepare 6 none ∈ lw_tbl := ai_t4_in (List.mem_of_getElem? (i := 62) rfl)
set_option maxRecDepth 4000 in
theorem ai_cd_19 : Cond.code yX2_sortRooms cX2_sortRooms 5 none ∈ lw_tbl := ai_t4_in (List.mem_of_getElem? (i := 66) rfl)
set_option maxRecDepth 4000 in
theorem ai_cd_20 : Cond.code yX2_sortHouseholds cX2_sortHouseholds 3 none ∈ lw_tbl := ai_t4_in (List.mem_of_getElem? (i := 70) rfl)
set_option maxRecDepth 4000 in
theorem ai_cd_21 : Cond.code yX2_relate cX2_relate 11 none ∈ lw_tbl := ai_t4_in (List.mem_of_getElem? (i := 78) rfl)
set_option maxRecDepth 4000 in
theorem ai_cd_22 : Cond.code yX2_bitIf cX2_bitIf 2 (some .int) ∈ lw_tbl := ai_t4_in (List.mem_of_getElem? (i := 81) rfl)
set_option maxRecDepth 4000 in
theorem ai_cd_23 : Cond.code yX2_search cX2_search 8 none ∈ lw_tbl := ai_t4_in (List.mem_of_getElem? (i := 89) rfl)
set_option maxRecDepth 4000 in
theorem ai_cd_24 : Cond.code yX2_keep cX2_keep 3 none ∈ lw_tbl := ai_t4_in (List.mem_of_getElem? (i := 93) rfl)
set_option maxRecDepth 4000 in
theorem ai_cd_25 : Cond.code yX2_choose cX2_choose 12 (some .int) ∈ lw_tbl := ai_t4_in (List.mem_of_getElem? (i := 97) rfl)
set_option maxRecDepth 4000 in
theorem ai_cd_26 : Cond.code yX2_hardship cX2_hardship 5 (some .int) ∈ lw_tbl := ai_t4_in (List.mem_of_getElem? (i := 110) rfl)
set_option maxRecDepth 4000 in
theorem ai_cd_27 : Cond.code yX2_leastTogether cX2_leastTogether 7 (some .int) ∈ lw_tbl := ai_t4_in (List.mem_of_getElem? (i := 115) rfl)
set_option maxRecDepth 4000 in
theorem ai_cd_28 : Cond.code yX2_give cX2_give 8 none ∈ lw_tbl := ai_t4_in (List.mem_of_getElem? (i := 120) rfl)
set_option maxRecDepth 4000 in
theorem ai_cd_29 : Cond.code yX2_preferLesserRooms cX2_preferLesserRooms 5 none ∈ lw_tbl := ai_t4_in (List.mem_of_getElem? (i := 124) rfl)
set_option maxRecDepth 4000 in
theorem ai_cd_30 : Cond.code yX2_findLesserRoom cX2_findLesserRoom 8 none ∈ lw_tbl := ai_t4_in (List.mem_of_getElem? (i := 128) rfl)
set_option maxRecDepth 4000 in
theorem ai_cd_31 : Cond.code yX2_spotOfRoom cX2_spotOfRoom 4 (some .int) ∈ lw_tbl := ai_t4_in (List.mem_of_getElem? (i := 132) rfl)
set_option maxRecDepth 4000 in
theorem ai_cd_32 : Cond.code yX3_init cX3_init 1 none ∈ lw_tbl := ai_t1_in (List.mem_of_getElem? (i := 66) rfl)
set_option maxRecDepth 4000 in
theorem ai_cd_33 : Cond.code yX3_has cX3_has 2 (some .boolean) ∈ lw_tbl := ai_t2_in (List.mem_of_getElem? (i := 200) rfl)
set_option maxRecDepth 4000 in
theorem ai_cd_34 : Cond.code yX3_add cX3_add 4 (some .int) ∈ lw_tbl := ai_t2_in (List.mem_of_getElem? (i := 192) rfl)
set_option maxRecDepth 4000 in
theorem ai_cd_35 : Cond.code yX3_addRoom cX3_addRoom 6 (some .int) ∈ lw_tbl := ai_t2_in (List.mem_of_getElem? (i := 204) rfl)
set_option maxRecDepth 4000 in
theorem ai_cd_36 : Cond.code yX3_setWay cX3_setWay 4 none ∈ lw_tbl := ai_t2_in (List.mem_of_getElem? (i := 213) rfl)
set_option maxRecDepth 4000 in
theorem ai_cd_37 : Cond.code yX3_hoursOn cX3_hoursOn 5 (some .int) ∈ lw_tbl := ai_t4_in (List.mem_of_getElem? (i := 208) rfl)
set_option maxRecDepth 4000 in
theorem ai_cd_38 : Cond.code yX3_supply cX3_supply 2 (some .int) ∈ lw_tbl := ai_t4_in (List.mem_of_getElem? (i := 172) rfl)
set_option maxRecDepth 4000 in
theorem ai_cd_39 : Cond.code yX3_take cX3_take 4 (some .int) ∈ lw_tbl := ai_t5_in (List.mem_of_getElem? (i := 5) rfl)
set_option maxRecDepth 4000 in
theorem ai_cd_40 : Cond.code yX3_fact cX3_fact 3 (some .int) ∈ lw_tbl := ai_t5_in (List.mem_of_getElem? (i := 14) rfl)
set_option maxRecDepth 4000 in
theorem ai_cd_41 : Cond.code yX4_init cX4_init 1 none ∈ lw_tbl := ai_t2_in (List.mem_of_getElem? (i := 78) rfl)
set_option maxRecDepth 4000 in
theorem ai_cd_42 : Cond.code yX4_add cX4_add 4 (some .int) ∈ lw_tbl := ai_t5_in (List.mem_of_getElem? (i := 34) rfl)
set_option maxRecDepth 4000 in
theorem ai_cd_43 : Cond.code yX4_hearFirst cX4_hearFirst 5 (some .int) ∈ lw_tbl := ai_t5_in (List.mem_of_getElem? (i := 42) rfl)
set_option maxRecDepth 4000 in
theorem ai_cd_44 : Cond.code yX4_dayHeard cX4_dayHeard 2 (some .int) ∈ lw_tbl := ai_t5_in (List.mem_of_getElem? (i := 51) rfl)
set_option maxRecDepth 4000 in
theorem ai_cd_45 : Cond.code yX4_inTurn cX4_inTurn 2 (some .int) ∈ lw_tbl := ai_t5_in (List.mem_of_getElem? (i := 59) rfl)
set_option maxRecDepth 4000 in
theorem ai_cd_46 : Cond.code yX5_init cX5_init 4 none ∈ lw_tbl := ai_t2_in (List.mem_of_getElem? (i := 29) rfl)
set_option maxRecDepth 4000 in
theorem ai_cd_47 : Cond.code yX5_stopOn cX5_stopOn 3 (some .int) ∈ lw_tbl := ai_t4_in (List.mem_of_getElem? (i := 230) rfl)
set_option maxRecDepth 4000 in
theorem ai_cd_48 : Cond.code yX5_leastHours cX5_leastHours 5 (some .int) ∈ lw_tbl := ai_t4_in (List.mem_of_getElem? (i := 157) rfl)
set_option maxRecDepth 4000 in
theorem ai_cd_49 : Cond.code yX5_measureRows cX5_measureRows 3 none ∈ lw_tbl := ai_t4_in (List.mem_of_getElem? (i := 162) rfl)
set_option maxRecDepth 4000 in
theorem ai_cd_50 : Cond.code yX5_measuredEnd cX5_measuredEnd 5 (some .int) ∈ lw_tbl := ai_t4_in (List.mem_of_getElem? (i := 168) rfl)
set_option maxRecDepth 4000 in
theorem ai_cd_51 : Cond.code yX5_mayBeAt cX5_mayBeAt 4 (some .boolean) ∈ lw_tbl := ai_t4_in (List.mem_of_getElem? (i := 177) rfl)
set_option maxRecDepth 4000 in
theorem ai_cd_52 : Cond.code yX5_leastOnward cX5_leastOnward 8 (some .int) ∈ lw_tbl := ai_t4_in (List.mem_of_getElem? (i := 187) rfl)
set_option maxRecDepth 4000 in
theorem ai_cd_53 : Cond.code yX5_leastLeaving cX5_leastLeaving 7 (some .int) ∈ lw_tbl := ai_t4_in (List.mem_of_getElem? (i := 195) rfl)
set_option maxRecDepth 4000 in
theorem ai_cd_54 : Cond.code yX5_leastBy cX5_leastBy 7 (some .int) ∈ lw_tbl := ai_t4_in (List.mem_of_getElem? (i := 204) rfl)
set_option maxRecDepth 4000 in
theorem ai_cd_55 : Cond.code yX5_leastFrom cX5_leastFrom 6 (some .int) ∈ lw_tbl := ai_t4_in (List.mem_of_getElem? (i := 212) rfl)
set_option maxRecDepth 4000 in
theorem ai_cd_56 : Cond.code yX5_slotOf cX5_slotOf 7 (some .int) ∈ lw_tbl := ai_t4_in (List.mem_of_getElem? (i := 199) rfl)
set_option maxRecDepth 4000 in
theorem ai_cd_57 : Cond.code yX5_trace cX5_trace 8 none ∈ lw_tbl := ai_t4_in (List.mem_of_getElem? (i := 218) rfl)
set_option maxRecDepth 4000 in
theorem ai_cd_58 : Cond.code yX5_leastNext cX5_leastNext 8 (some .int) ∈ lw_tbl := ai_t4_in (List.mem_of_getElem? (i := 222) rfl)
set_option maxRecDepth 4000 in
theorem ai_cd_59 : Cond.code yX6_init cX6_init 3 none ∈ lw_tbl := ai_t1_in (List.mem_of_getElem? (i := 191) rfl)
set_option maxRecDepth 4000 in
theorem ai_cd_60 : Cond.code yX6_reads cX6_reads 2 (some .boolean) ∈ lw_tbl := ai_t3_in (List.mem_of_getElem? (i := 134) rfl)
set_option maxRecDepth 4000 in
theorem ai_cd_61 : Cond.code yX6_faultPlace cX6_faultPlace 1 (some .int) ∈ lw_tbl := ai_t3_in (List.mem_of_getElem? (i := 218) rfl)
set_option maxRecDepth 4000 in
theorem ai_cd_62 : Cond.code yX6_readRule cX6_readRule 2 (some .boolean) ∈ lw_tbl := ai_t3_in (List.mem_of_getElem? (i := 146) rfl)
set_option maxRecDepth 4000 in
theorem ai_cd_63 : Cond.code yX6_readTests cX6_readTests 2 (some .boolean) ∈ lw_tbl := ai_t3_in (List.mem_of_getElem? (i := 161) rfl)
set_option maxRecDepth 4000 in
theorem ai_cd_64 : Cond.code yX6_readTest cX6_readTest 3 (some .boolean) ∈ lw_tbl := ai_t3_in (List.mem_of_getElem? (i := 177) rfl)
set_option maxRecDepth 4000 in
theorem ai_cd_65 : Cond.code yX6_readSum cX6_readSum 2 (some .boolean) ∈ lw_tbl := ai_t3_in (List.mem_of_getElem? (i := 193) rfl)
set_option maxRecDepth 4000 in
theorem ai_cd_66 : Cond.code yX6_readTerm cX6_readTerm 2 (some .boolean) ∈ lw_tbl := ai_t3_in (List.mem_of_getElem? (i := 197) rfl)
set_option maxRecDepth 4000 in
theorem ai_cd_67 : Cond.code yX6_advance cX6_advance 1 none ∈ lw_tbl := ai_t3_in (List.mem_of_getElem? (i := 165) rfl)
set_option maxRecDepth 4000 in
theorem ai_cd_68 : Cond.code yX6_isNumber cX6_isNumber 1 (some .boolean) ∈ lw_tbl := ai_t3_in (List.mem_of_getElem? (i := 181) rfl)
set_option maxRecDepth 4000 in
theorem ai_cd_69 : Cond.code yX6_isName cX6_isName 1 (some .boolean) ∈ lw_tbl := ai_t3_in (List.mem_of_getElem? (i := 169) rfl)
set_option maxRecDepth 4000 in
theorem ai_cd_70 : Cond.code yX6_failWithoutName cX6_failWithoutName 1 (some .boolean) ∈ lw_tbl := ai_t3_in (List.mem_of_getElem? (i := 173) rfl)
set_option maxRecDepth 4000 in
theorem ai_cd_71 : Cond.code yX6_fail cX6_fail 2 (some .boolean) ∈ lw_tbl := ai_t3_in (List.mem_of_getElem? (i := 150) rfl)
set_option maxRecDepth 4000 in
theorem ai_cd_72 : Cond.code yX7_init cX7_init 3 none ∈ lw_tbl := ai_t1_in (List.mem_of_getElem? (i := 133) rfl)
set_option maxRecDepth 4000 in
theorem ai_cd_73 : Cond.code yX7_beginDraft cX7_beginDraft 1 none ∈ lw_tbl := ai_t3_in (List.mem_of_getElem? (i := 142) rfl)
set_option maxRecDepth 4000 in
theorem ai_cd_74 : Cond.code yX7_draftRule cX7_draftRule 1 none ∈ lw_tbl := ai_t3_in (List.mem_of_getElem? (i := 154) rfl)
set_option maxRecDepth 4000 in
theorem ai_cd_75 : Cond.code yX7_draftKind cX7_draftKind 2 none ∈ lw_tbl := ai_t3_in (List.mem_of_getElem? (i := 189) rfl)
set_option maxRecDepth 4000 in
theorem ai_cd_76 : Cond.code yX7_draftTest cX7_draftTest 5 none ∈ lw_tbl := ai_t3_in (List.mem_of_getElem? (i := 185) rfl)
set_option maxRecDepth 4000 in
theorem ai_cd_77 : Cond.code yX7_draftTerm cX7_draftTerm 4 none ∈ lw_tbl := ai_t3_in (List.mem_of_getElem? (i := 201) rfl)
set_option maxRecDepth 4000 in
theorem ai_cd_78 : Cond.code yX7_enact cX7_enact 2 (some .int) ∈ lw_tbl := ai_t3_in (List.mem_of_getElem? (i := 205) rfl)
set_option maxRecDepth 4000 in
theorem ai_cd_79 : Cond.code yX7_inForce cX7_inForce 5 (some .int) ∈ lw_tbl := ai_t3_in (List.mem_of_getElem? (i := 230) rfl)
set_option maxRecDepth 4000 in
theorem ai_cd_80 : Cond.code yX7_portion cX7_portion 5 (some .int) ∈ lw_tbl := ai_t3_in (List.mem_of_getElem? (i := 238) rfl)
set_option maxRecDepth 4000 in
theorem ai_cd_81 : Cond.code yX7_needOf cX7_needOf 6 (some .int) ∈ lw_tbl := ai_t4_in (List.mem_of_getElem? (i := 37) rfl)
set_option maxRecDepth 4000 in
theorem ai_cd_82 : Cond.code yX7_setDay cX7_setDay 2 none ∈ lw_tbl := ai_t4_in (List.mem_of_getElem? (i := 4) rfl)
set_option maxRecDepth 4000 in
theorem ai_cd_83 : Cond.code yX7_setHousehold cX7_setHousehold 2 none ∈ lw_tbl := ai_t4_in (List.mem_of_getElem? (i := 13) rfl)
set_option maxRecDepth 4000 in
theorem ai_cd_84 : Cond.code yX7_firstSum cX7_firstSum 5 (some .int) ∈ lw_tbl := ai_t4_in (List.mem_of_getElem? (i := 17) rfl)
set_option maxRecDepth 4000 in
theorem ai_cd_85 : Cond.code yX7_testsHold cX7_testsHold 7 (some .boolean) ∈ lw_tbl := ai_t4_in (List.mem_of_getElem? (i := 21) rfl)
set_option maxRecDepth 4000 in
theorem ai_cd_86 : Cond.code yX7_sumOf cX7_sumOf 5 (some .int) ∈ lw_tbl := ai_t4_in (List.mem_of_getElem? (i := 29) rfl)
set_option maxRecDepth 4000 in
theorem ai_cd_87 : Cond.code yX7_valueOf cX7_valueOf 2 (some .int) ∈ lw_tbl := ai_t4_in (List.mem_of_getElem? (i := 25) rfl)
set_option maxRecDepth 4000 in
theorem ai_cd_88 : Cond.code yX7_rowOf cX7_rowOf 2 (some .int) ∈ lw_tbl := ai_t3_in (List.mem_of_getElem? (i := 157) rfl)
set_option maxRecDepth 4000 in
theorem ai_cd_89 : Cond.code yX8_init cX8_init 1 none ∈ lw_tbl := ai_t1_in (List.mem_of_getElem? (i := 165) rfl)
set_option maxRecDepth 4000 in
theorem ai_cd_90 : Cond.code yX8_hasRoom cX8_hasRoom 1 (some .boolean) ∈ lw_tbl := ai_t3_in (List.mem_of_getElem? (i := 17) rfl)
set_option maxRecDepth 4000 in
theorem ai_cd_91 : Cond.code yX8_append cX8_append 3 none ∈ lw_tbl := ai_t3_in (List.mem_of_getElem? (i := 21) rfl)
set_option maxRecDepth 4000 in
theorem ai_cd_92 : Cond.code yX8_tokenAt cX8_tokenAt 2 (some .int) ∈ lw_tbl := ai_t3_in (List.mem_of_getElem? (i := 138) rfl)
set_option maxRecDepth 4000 in
theorem ai_cd_93 : Cond.code yX8_placeAt cX8_placeAt 2 (some .int) ∈ lw_tbl := ai_t3_in (List.mem_of_getElem? (i := 222) rfl)
set_option maxRecDepth 4000 in
theorem ai_cd_94 : Cond.code yX8_scan cX8_scan 5 none ∈ lw_tbl := ai_t3_in (List.mem_of_getElem? (i := 29) rfl)
set_option maxRecDepth 4000 in
theorem ai_cd_95 : Cond.code yX8_skipBlanks cX8_skipBlanks 3 (some .int) ∈ lw_tbl := ai_t3_in (List.mem_of_getElem? (i := 37) rfl)
set_option maxRecDepth 4000 in
theorem ai_cd_96 : Cond.code yX8_tokenEnd cX8_tokenEnd 3 (some .int) ∈ lw_tbl := ai_t3_in (List.mem_of_getElem? (i := 45) rfl)
set_option maxRecDepth 4000 in
theorem ai_cd_97 : Cond.code yX8_tokenOf cX8_tokenOf 3 (some .int) ∈ lw_tbl := ai_t3_in (List.mem_of_getElem? (i := 57) rfl)
set_option maxRecDepth 4000 in
theorem ai_cd_98 : Cond.code yX8_numberOf cX8_numberOf 5 (some .int) ∈ lw_tbl := ai_t3_in (List.mem_of_getElem? (i := 127) rfl)
set_option maxRecDepth 4000 in
theorem ai_cd_99 : Cond.code yX8_wordOf cX8_wordOf 3 (some .int) ∈ lw_tbl := ai_t3_in (List.mem_of_getElem? (i := 61) rfl)
set_option maxRecDepth 4000 in
theorem ai_cd_100 : Cond.code yX8_spells cX8_spells 5 (some .boolean) ∈ lw_tbl := ai_t3_in (List.mem_of_getElem? (i := 66) rfl)
set_option maxRecDepth 4000 in
theorem ai_cd_101 : Cond.code yX8_isLetter cX8_isLetter 2 (some .boolean) ∈ lw_tbl := ai_t3_in (List.mem_of_getElem? (i := 49) rfl)
set_option maxRecDepth 4000 in
theorem ai_cd_102 : Cond.code yX8_isDigit cX8_isDigit 2 (some .boolean) ∈ lw_tbl := ai_t3_in (List.mem_of_getElem? (i := 53) rfl)
set_option maxRecDepth 4000 in
theorem ai_cd_103 : Cond.code yX8_isSign cX8_isSign 1 (some .boolean) ∈ lw_tbl := ai_t3_in (List.mem_of_getElem? (i := 130) rfl)
set_option maxRecDepth 4000 in
theorem ai_cd_104 : Cond.code yX9_init cX9_init 2 none ∈ lw_tbl := ai_t1_in (List.mem_of_getElem? (i := 26) rfl)
set_option maxRecDepth 4000 in
theorem ai_cd_105 : Cond.code yX9_household cX9_household 4 (some .int) ∈ lw_tbl := ai_t2_in (List.mem_of_getElem? (i := 147) rfl)
set_option maxRecDepth 4000 in
theorem ai_cd_106 : Cond.code yX9_bar cX9_bar 4 (some .boolean) ∈ lw_tbl := ai_t2_in (List.mem_of_getElem? (i := 166) rfl)
set_option maxRecDepth 4000 in
theorem ai_cd_107 : Cond.code yX9_place cX9_place 5 (some .int) ∈ lw_tbl := ai_t2_in (List.mem_of_getElem? (i := 187) rfl)
set_option maxRecDepth 4000 in
theorem ai_cd_108 : Cond.code yX9_room cX9_room 5 (some .int) ∈ lw_tbl := ai_t2_in (List.mem_of_getElem? (i := 196) rfl)
set_option maxRecDepth 4000 in
theorem ai_cd_109 : Cond.code yX9_way cX9_way 4 (some .boolean) ∈ lw_tbl := ai_t2_in (List.mem_of_getElem? (i := 209) rfl)
set_option maxRecDepth 4000 in
theorem ai_cd_110 : Cond.code yX9_mud cX9_mud 4 (some .boolean) ∈ lw_tbl := ai_t2_in (List.mem_of_getElem? (i := 217) rfl)
set_option maxRecDepth 4000 in
theorem ai_cd_111 : Cond.code yX9_feast cX9_feast 3 (some .boolean) ∈ lw_tbl := ai_t2_in (List.mem_of_getElem? (i := 231) rfl)
set_option maxRecDepth 4000 in
theorem ai_cd_112 : Cond.code yX9_bring cX9_bring 8 (some .boolean) ∈ lw_tbl := ai_t3_in (List.mem_of_getElem? (i := 8) rfl)
set_option maxRecDepth 4000 in
theorem ai_cd_113 : Cond.code yX9_feed cX9_feed 6 (some .int) ∈ lw_tbl := ai_t3_in (List.mem_of_getElem? (i := 13) rfl)
set_option maxRecDepth 4000 in
theorem ai_cd_114 : Cond.code yX9_ordinance cX9_ordinance 3 (some .int) ∈ lw_tbl := ai_t3_in (List.mem_of_getElem? (i := 25) rfl)
set_option maxRecDepth 4000 in
theorem ai_cd_115 : Cond.code yX9_fault cX9_fault 1 (some .int) ∈ lw_tbl := ai_t3_in (List.mem_of_getElem? (i := 210) rfl)
set_option maxRecDepth 4000 in
theorem ai_cd_116 : Cond.code yX9_where cX9_where 1 (some .int) ∈ lw_tbl := ai_t3_in (List.mem_of_getElem? (i := 214) rfl)
set_option maxRecDepth 4000 in
theorem ai_cd_117 : Cond.code yX9_force cX9_force 2 (some .int) ∈ lw_tbl := ai_t3_in (List.mem_of_getElem? (i := 226) rfl)
set_option maxRecDepth 4000 in
theorem ai_cd_118 : Cond.code yX9_eats cX9_eats 4 (some .int) ∈ lw_tbl := ai_t3_in (List.mem_of_getElem? (i := 234) rfl)
set_option maxRecDepth 4000 in
theorem ai_cd_119 : Cond.code yX9_need cX9_need 2 (some .int) ∈ lw_tbl := ai_t4_in (List.mem_of_getElem? (i := 33) rfl)
set_option maxRecDepth 4000 in
theorem ai_cd_120 : Cond.code yX9_lodge cX9_lodge 4 (some .int) ∈ lw_tbl := ai_t4_in (List.mem_of_getElem? (i := 45) rfl)
set_option maxRecDepth 4000 in
theorem ai_cd_121 : Cond.code yX9_lodged cX9_lodged 2 (some .int) ∈ lw_tbl := ai_t4_in (List.mem_of_getElem? (i := 141) rfl)
set_option maxRecDepth 4000 in
theorem ai_cd_122 : Cond.code yX9_why cX9_why 2 (some .int) ∈ lw_tbl := ai_t4_in (List.mem_of_getElem? (i := 145) rfl)
set_option maxRecDepth 4000 in
theorem ai_cd_123 : Cond.code yX9_route cX9_route 3 (some .int) ∈ lw_tbl := ai_t4_in (List.mem_of_getElem? (i := 153) rfl)
set_option maxRecDepth 4000 in
theorem ai_cd_124 : Cond.code yX9_at cX9_at 2 (some .int) ∈ lw_tbl := ai_t4_in (List.mem_of_getElem? (i := 226) rfl)
set_option maxRecDepth 4000 in
theorem ai_cd_125 : Cond.code yX9_lasts cX9_lasts 4 (some .int) ∈ lw_tbl := ai_t4_in (List.mem_of_getElem? (i := 234) rfl)
set_option maxRecDepth 4000 in
theorem ai_cd_126 : Cond.code yX9_step cX9_step 3 (some .int) ∈ lw_tbl := ai_t4_in (List.mem_of_getElem? (i := 239) rfl)
set_option maxRecDepth 4000 in
theorem ai_cd_127 : Cond.code yX9_about cX9_about 3 (some .int) ∈ lw_tbl := ai_t5_in (List.mem_of_getElem? (i := 10) rfl)
set_option maxRecDepth 4000 in
theorem ai_cd_128 : Cond.code yX9_was cX9_was 2 (some .int) ∈ lw_tbl := ai_t5_in (List.mem_of_getElem? (i := 18) rfl)
set_option maxRecDepth 4000 in
theorem ai_cd_129 : Cond.code yX9_lacked cX9_lacked 2 (some .int) ∈ lw_tbl := ai_t5_in (List.mem_of_getElem? (i := 26) rfl)
set_option maxRecDepth 4000 in
theorem ai_cd_130 : Cond.code yX9_plea cX9_plea 2 (some .int) ∈ lw_tbl := ai_t5_in (List.mem_of_getElem? (i := 30) rfl)
set_option maxRecDepth 4000 in
theorem ai_cd_131 : Cond.code yX9_hear cX9_hear 2 (some .int) ∈ lw_tbl := ai_t5_in (List.mem_of_getElem? (i := 38) rfl)
set_option maxRecDepth 4000 in
theorem ai_cd_132 : Cond.code yX9_heard cX9_heard 2 (some .int) ∈ lw_tbl := ai_t5_in (List.mem_of_getElem? (i := 47) rfl)
set_option maxRecDepth 4000 in
theorem ai_cd_133 : Cond.code yX9_next cX9_next 2 (some .int) ∈ lw_tbl := ai_t5_in (List.mem_of_getElem? (i := 55) rfl)
set_option maxRecDepth 4000 in
theorem ai_cd_134 : Cond.code yX9_count cX9_count 2 (some .int) ∈ lw_tbl := ai_t5_in (List.mem_of_getElem? (i := 63) rfl)
set_option maxRecDepth 4000 in
theorem ai_cd_135 : Cond.code yX9_trouble cX9_trouble 1 (some .int) ∈ lw_tbl := ai_t5_in (List.mem_of_getElem? (i := 67) rfl)
set_option maxRecDepth 4000 in
theorem ai_cd_136 : Cond.code yX9_refuse cX9_refuse 2 (some .int) ∈ lw_tbl := ai_t2_in (List.mem_of_getElem? (i := 154) rfl)
set_option maxRecDepth 4000 in
theorem ai_cd_137 : Cond.code yX9_grant cX9_grant 2 (some .int) ∈ lw_tbl := ai_t2_in (List.mem_of_getElem? (i := 162) rfl)
set_option maxRecDepth 4000 in
theorem ai_cd_138 : Cond.code yX9_deny cX9_deny 2 (some .boolean) ∈ lw_tbl := ai_t2_in (List.mem_of_getElem? (i := 174) rfl)
set_option maxRecDepth 4000 in
theorem ai_cd_139 : Cond.code yX9_allow cX9_allow 1 (some .boolean) ∈ lw_tbl := ai_t2_in (List.mem_of_getElem? (i := 183) rfl)
set_option maxRecDepth 4000 in
theorem ai_cd_140 : Cond.code yX9_isPast cX9_isPast 2 (some .boolean) ∈ lw_tbl := ai_t5_in (List.mem_of_getElem? (i := 22) rfl)
set_option maxRecDepth 4000 in
theorem ai_cd_141 : Cond.code yX9_isDay cX9_isDay 1 (some .boolean) ∈ lw_tbl := ai_t2_in (List.mem_of_getElem? (i := 220) rfl)
set_option maxRecDepth 4000 in
theorem ai_cd_142 : Cond.code yX9_isWithin cX9_isWithin 3 (some .boolean) ∈ lw_tbl := ai_t2_in (List.mem_of_getElem? (i := 150) rfl)
set_option maxRecDepth 4000 in
theorem ai_cd_143 : Cond.code yX9_lowestIn cX9_lowestIn 1 (some .int) ∈ lw_tbl := ai_t4_in (List.mem_of_getElem? (i := 100) rfl)
set_option maxRecDepth 4000 in
theorem ai_cd_144 : Cond.code yX11_refused cX11_refused 2 (some .int) ∈ lw_tbl := ai_t6_in (List.mem_of_getElem? (i := 109) rfl)
set_option maxRecDepth 4000 in
theorem ai_cd_145 : Cond.code yX11_denied cX11_denied 2 (some .boolean) ∈ lw_tbl := ai_t6_in (List.mem_of_getElem? (i := 125) rfl)
set_option maxRecDepth 4000 in
theorem ai_cd_146 : Cond.code yX11_done cX11_done 2 (some .int) ∈ lw_tbl := ai_t6_in (List.mem_of_getElem? (i := 113) rfl)
set_option maxRecDepth 4000 in
theorem ai_cd_147 : Cond.code yX11_granted cX11_granted 1 (some .boolean) ∈ lw_tbl := ai_t6_in (List.mem_of_getElem? (i := 129) rfl)
set_option maxRecDepth 4000 in
theorem ai_cd_148 : Cond.code yX11_in cX11_in 3 (some .boolean) ∈ lw_tbl := ai_t6_in (List.mem_of_getElem? (i := 105) rfl)
set_option maxRecDepth 4000 in
theorem ai_cd_149 : Cond.code yX11_init cX11_init 2 none ∈ lw_tbl := ai_t5_in (List.mem_of_getElem? (i := 72) rfl)
set_option maxRecDepth 4000 in
theorem ai_cd_150 : Cond.code yX11_isHousehold cX11_isHousehold 2 (some .boolean) ∈ lw_tbl := ai_t6_in (List.mem_of_getElem? (i := 121) rfl)
set_option maxRecDepth 4000 in
theorem ai_cd_151 : Cond.code yX11_isPlace cX11_isPlace 2 (some .boolean) ∈ lw_tbl := ai_t6_in (List.mem_of_getElem? (i := 142) rfl)
set_option maxRecDepth 4000 in
theorem ai_cd_152 : Cond.code yX11_isDay cX11_isDay 1 (some .boolean) ∈ lw_tbl := ai_t6_in (List.mem_of_getElem? (i := 157) rfl)
set_option maxRecDepth 4000 in
theorem ai_cd_153 : Cond.code yX11_household cX11_household 4 (some .int) ∈ lw_tbl := ai_t6_in (List.mem_of_getElem? (i := 102) rfl)
set_option maxRecDepth 4000 in
theorem ai_cd_154 : Cond.code yX11_bar cX11_bar 4 (some .boolean) ∈ lw_tbl := ai_t6_in (List.mem_of_getElem? (i := 117) rfl)
set_option maxRecDepth 4000 in
theorem ai_cd_155 : Cond.code yX11_place cX11_place 4 (some .int) ∈ lw_tbl := ai_t6_in (List.mem_of_getElem? (i := 133) rfl)
set_option maxRecDepth 4000 in
theorem ai_cd_156 : Cond.code yX11_room cX11_room 6 (some .int) ∈ lw_tbl := ai_t6_in (List.mem_of_getElem? (i := 138) rfl)
set_option maxRecDepth 4000 in
theorem ai_cd_157 : Cond.code yX11_way cX11_way 4 (some .boolean) ∈ lw_tbl := ai_t6_in (List.mem_of_getElem? (i := 146) rfl)
set_option maxRecDepth 4000 in
theorem ai_cd_158 : Cond.code yX11_mud cX11_mud 5 (some .boolean) ∈ lw_tbl := ai_t6_in (List.mem_of_getElem? (i := 150) rfl)
set_option maxRecDepth 4000 in
theorem ai_cd_159 : Cond.code yX11_feast cX11_feast 3 (some .boolean) ∈ lw_tbl := ai_t6_in (List.mem_of_getElem? (i := 154) rfl)
set_option maxRecDepth 4000 in
theorem ai_cd_160 : Cond.code yX11_bring cX11_bring 8 (some .boolean) ∈ lw_tbl := ai_t6_in (List.mem_of_getElem? (i := 161) rfl)
set_option maxRecDepth 4000 in
theorem ai_cd_161 : Cond.code yX11_stop cX11_stop 2 (some (.object "CourtProgressModel$Stop")) ∈ lw_tbl := ai_t6_in (List.mem_of_getElem? (i := 205) rfl)
set_option maxRecDepth 4000 in
theorem ai_cd_162 : Cond.code yX11_byteAt cX11_byteAt 2 (some .int) ∈ lw_tbl := ai_t6_in (List.mem_of_getElem? (i := 182) rfl)
set_option maxRecDepth 4000 in
theorem ai_cd_163 : Cond.code yX11_isLetter cX11_isLetter 1 (some .boolean) ∈ lw_tbl := ai_t6_in (List.mem_of_getElem? (i := 185) rfl)
set_option maxRecDepth 4000 in
theorem ai_cd_164 : Cond.code yX11_isDigit cX11_isDigit 1 (some .boolean) ∈ lw_tbl := ai_t6_in (List.mem_of_getElem? (i := 189) rfl)
set_option maxRecDepth 4000 in
theorem ai_cd_165 : Cond.code yX11_wordOf cX11_wordOf 4 (some .long) ∈ lw_tbl := ai_t6_in (List.mem_of_getElem? (i := 197) rfl)
set_option maxRecDepth 4000 in
theorem ai_cd_166 : Cond.code yX11_next cX11_next 3 none ∈ lw_tbl := ai_t6_in (List.mem_of_getElem? (i := 178) rfl)
set_option maxRecDepth 4000 in
theorem ai_cd_167 : Cond.code yX11_isWord cX11_isWord 2 (some .boolean) ∈ lw_tbl := ai_t6_in (List.mem_of_getElem? (i := 194) rfl)
set_option maxRecDepth 4000 in
theorem ai_cd_168 : Cond.code yX11_is cX11_is 2 (some .boolean) ∈ lw_tbl := ai_t6_in (List.mem_of_getElem? (i := 224) rfl)
set_option maxRecDepth 4000 in
theorem ai_cd_169 : Cond.code yX11_nameHere cX11_nameHere 2 (some .int) ∈ lw_tbl := ai_t6_in (List.mem_of_getElem? (i := 213) rfl)
set_option maxRecDepth 4000 in
theorem ai_cd_170 : Cond.code yX11_reads cX11_reads 6 none ∈ lw_tbl := ai_t6_in (List.mem_of_getElem? (i := 174) rfl)
set_option maxRecDepth 4000 in
theorem ai_cd_171 : Cond.code yX11_readTest cX11_readTest 4 none ∈ lw_tbl := ai_t6_in (List.mem_of_getElem? (i := 209) rfl)
set_option maxRecDepth 4000 in
theorem ai_cd_172 : Cond.code yX11_readTerm cX11_readTerm 4 none ∈ lw_tbl := ai_t6_in (List.mem_of_getElem? (i := 228) rfl)
set_option maxRecDepth 4000 in
theorem ai_cd_173 : Cond.code yX11_feed cX11_feed 8 (some .int) ∈ lw_tbl := ai_t6_in (List.mem_of_getElem? (i := 166) rfl)
set_option maxRecDepth 4000 in
theorem ai_cd_174 : Cond.codeWith yX11_ordinance cX11_ordinance 4 (some .int) [(50, 54, 57, 86)] ∈ lw_tbl := ai_t6_in (List.mem_of_getElem? (i := 170) rfl)
set_option maxRecDepth 4000 in
theorem ai_cd_175 : Cond.code yX11_fault cX11_fault 1 (some .int) ∈ lw_tbl := ai_t6_in (List.mem_of_getElem? (i := 232) rfl)
set_option maxRecDepth 4000 in
theorem ai_cd_176 : Cond.code yX11_where cX11_where 1 (some .int) ∈ lw_tbl := ai_t6_in (List.mem_of_getElem? (i := 236) rfl)
set_option maxRecDepth 4000 in
theorem ai_cd_177 : Cond.code yX11_forceOf cX11_forceOf 4 (some .int) ∈ lw_tbl := ai_t7_in (List.mem_of_getElem? (i := 4) rfl)
set_option maxRecDepth 4000 in
theorem ai_cd_178 : Cond.code yX11_force cX11_force 2 (some .int) ∈ lw_tbl := ai_t7_in (List.mem_of_getElem? (i := 0) rfl)
set_option maxRecDepth 4000 in
theorem ai_cd_179 : Cond.code yX11_valueOf cX11_valueOf 4 (some .int) ∈ lw_tbl := ai_t7_in (List.mem_of_getElem? (i := 17) rfl)
set_option maxRecDepth 4000 in
theorem ai_cd_180 : Cond.code yX11_eatsOf cX11_eatsOf 9 (some .int) ∈ lw_tbl := ai_t7_in (List.mem_of_getElem? (i := 12) rfl)
set_option maxRecDepth 4000 in
theorem ai_cd_181 : Cond.code yX11_eats cX11_eats 4 (some .int) ∈ lw_tbl := ai_t7_in (List.mem_of_getElem? (i := 8) rfl)
set_option maxRecDepth 4000 in
theorem ai_cd_182 : Cond.code yX11_needOf cX11_needOf 5 (some .int) ∈ lw_tbl := ai_t7_in (List.mem_of_getElem? (i := 25) rfl)
set_option maxRecDepth 4000 in
theorem ai_cd_183 : Cond.code yX11_need cX11_need 2 (some .int) ∈ lw_tbl := ai_t7_in (List.mem_of_getElem? (i := 21) rfl)
set_option maxRecDepth 4000 in
theorem ai_cd_184 : Cond.code yX11_mayHave cX11_mayHave 9 (some .boolean) ∈ lw_tbl := ai_t7_in (List.mem_of_getElem? (i := 42) rfl)
set_option maxRecDepth 4000 in
theorem ai_cd_185 : Cond.code yX11_lodges cX11_lodges 9 (some .boolean) ∈ lw_tbl := ai_t7_in (List.mem_of_getElem? (i := 38) rfl)
set_option maxRecDepth 4000 in
theorem ai_cd_186 : Cond.code yX11_spares cX11_spares 4 none ∈ lw_tbl := ai_t7_in (List.mem_of_getElem? (i := 46) rfl)
set_option maxRecDepth 4000 in
theorem ai_cd_187 : Cond.code yX11_whyOf cX11_whyOf 4 (some .int) ∈ lw_tbl := ai_t7_in (List.mem_of_getElem? (i := 34) rfl)
set_option maxRecDepth 4000 in
theorem ai_cd_188 : Cond.code yX11_lodge cX11_lodge 4 (some .int) ∈ lw_tbl := ai_t7_in (List.mem_of_getElem? (i := 30) rfl)
set_option maxRecDepth 4000 in
theorem ai_cd_189 : Cond.code yX11_lodged cX11_lodged 2 (some .int) ∈ lw_tbl := ai_t7_in (List.mem_of_getElem? (i := 52) rfl)
set_option maxRecDepth 4000 in
theorem ai_cd_190 : Cond.code yX11_why cX11_why 2 (some .int) ∈ lw_tbl := ai_t7_in (List.mem_of_getElem? (i := 56) rfl)
set_option maxRecDepth 4000 in
theorem ai_cd_191 : Cond.code yX11_hoursOf cX11_hoursOf 5 (some .int) ∈ lw_tbl := ai_t7_in (List.mem_of_getElem? (i := 72) rfl)
set_option maxRecDepth 4000 in
theorem ai_cd_192 : Cond.code yX11_mayBe cX11_mayBe 3 (some .boolean) ∈ lw_tbl := ai_t7_in (List.mem_of_getElem? (i := 76) rfl)
set_option maxRecDepth 4000 in
theorem ai_cd_193 : Cond.code yX11_goesOn cX11_goesOn 9 (some .int) ∈ lw_tbl := ai_t7_in (List.mem_of_getElem? (i := 80) rfl)
set_option maxRecDepth 4000 in
theorem ai_cd_194 : Cond.code yX11_leaves cX11_leaves 7 (some .int) ∈ lw_tbl := ai_t7_in (List.mem_of_getElem? (i := 68) rfl)
set_option maxRecDepth 4000 in
theorem ai_cd_195 : Cond.code yX11_rows cX11_rows 8 none ∈ lw_tbl := ai_t7_in (List.mem_of_getElem? (i := 64) rfl)
set_option maxRecDepth 4000 in
theorem ai_cd_196 : Cond.code yX11_route cX11_route 12 (some .int) ∈ lw_tbl := ai_t7_in (List.mem_of_getElem? (i := 60) rfl)
set_option maxRecDepth 4000 in
theorem ai_cd_197 : Cond.code yX11_at cX11_at 2 (some .int) ∈ lw_tbl := ai_t7_in (List.mem_of_getElem? (i := 84) rfl)
set_option maxRecDepth 4000 in
theorem ai_cd_198 : Cond.code yX11_lasts cX11_lasts 5 (some .int) ∈ lw_tbl := ai_t7_in (List.mem_of_getElem? (i := 88) rfl)
set_option maxRecDepth 4000 in
theorem ai_cd_199 : Cond.code yX11_step cX11_step 4 (some .int) ∈ lw_tbl := ai_t7_in (List.mem_of_getElem? (i := 92) rfl)
set_option maxRecDepth 4000 in
theorem ai_cd_200 : Cond.code yX11_about cX11_about 3 (some .int) ∈ lw_tbl := ai_t7_in (List.mem_of_getElem? (i := 96) rfl)
set_option maxRecDepth 4000 in
theorem ai_cd_201 : Cond.code yX11_was cX11_was 2 (some .int) ∈ lw_tbl := ai_t7_in (List.mem_of_getElem? (i := 100) rfl)
set_option maxRecDepth 4000 in
theorem ai_cd_202 : Cond.code yX11_lacked cX11_lacked 2 (some .int) ∈ lw_tbl := ai_t7_in (List.mem_of_getElem? (i := 104) rfl)
set_option maxRecDepth 4000 in
theorem ai_cd_203 : Cond.code yX11_plea cX11_plea 2 (some .int) ∈ lw_tbl := ai_t7_in (List.mem_of_getElem? (i := 108) rfl)
set_option maxRecDepth 4000 in
theorem ai_cd_204 : Cond.code yX11_nextOf cX11_nextOf 7 (some .int) ∈ lw_tbl := ai_t7_in (List.mem_of_getElem? (i := 116) rfl)
set_option maxRecDepth 4000 in
theorem ai_cd_205 : Cond.code yX11_hear cX11_hear 4 (some .int) ∈ lw_tbl := ai_t7_in (List.mem_of_getElem? (i := 112) rfl)
set_option maxRecDepth 4000 in
theorem ai_cd_206 : Cond.code yX11_heard cX11_heard 2 (some .int) ∈ lw_tbl := ai_t7_in (List.mem_of_getElem? (i := 120) rfl)
set_option maxRecDepth 4000 in
theorem ai_cd_207 : Cond.code yX11_next_ cX11_next_ 2 (some .int) ∈ lw_tbl := ai_t7_in (List.mem_of_getElem? (i := 124) rfl)
set_option maxRecDepth 4000 in
theorem ai_cd_208 : Cond.code yX11_count cX11_count 4 (some .int) ∈ lw_tbl := ai_t7_in (List.mem_of_getElem? (i := 128) rfl)
set_option maxRecDepth 4000 in
theorem ai_cd_209 : Cond.code yX11_trouble cX11_trouble 1 (some .int) ∈ lw_tbl := ai_t7_in (List.mem_of_getElem? (i := 132) rfl)
set_option maxRecDepth 4000 in
theorem ai_cd_210 : Cond.code yJ6_bitCount_0f7a4 cJ6_bitCount_0f7a4 1 (some .int) ∈ lw_tbl := ai_t4_in (List.mem_of_getElem? (i := 103) rfl)
set_option maxRecDepth 4000 in
theorem ai_cd_211 : Cond.code yJ9_max_7cf53 cJ9_max_7cf53 2 (some .int) ∈ lw_tbl := ai_t2_in (List.mem_of_getElem? (i := 227) rfl)
set_option maxRecDepth 4000 in
theorem ai_cd_212 : Cond.code yJ9_min_7cf53 cJ9_min_7cf53 2 (some .int) ∈ lw_tbl := ai_t3_in (List.mem_of_getElem? (i := 32) rfl)
set_option maxRecDepth 4000 in
theorem ai_cd_213 : Cond.code yJ9_min_f86c9 cJ9_min_f86c9 4 (some .long) ∈ lw_tbl := ai_t4_in (List.mem_of_getElem? (i := 41) rfl)
set_option maxRecDepth 4000 in
theorem ai_cd_214 : Cond.code yX5_rowEnd cX5_rowEnd 4 (some .int) ∈ lw_tbl := ai_t4_in (List.mem_of_getElem? (i := 191) rfl)
set_option maxRecDepth 4000 in
theorem ai_cd_215 : Cond.code yX8_byteAt cX8_byteAt 2 (some .int) ∈ lw_tbl := ai_t3_in (List.mem_of_getElem? (i := 41) rfl)
def ai_hnd (mi : Nat) : List (Nat × Nat × Nat × Nat) := if mi = 174 then [(50, 54, 57, 86)] else []
def ai_cdw (mi : Nat) (r : MethodName × ByteArray × Option FieldType × List Nat) : Cond := if mi = 174 then .codeWith r.1 r.2.1 (ai_mx mi) r.2.2.1 [(50, 54, 57, 86)] else .code r.1 r.2.1 (ai_mx mi) r.2.2.1
theorem ai_cds_0 : ∀ (mi : Nat) (r : MethodName × ByteArray × Option FieldType × List Nat), ai_rows_0[mi]? = some r → ai_cdw (mi + 0) r ∈ lw_tbl := fun mi r h => match mi, h with
  | 0, h => Option.some.inj h ▸ ai_cd_0
  | 1, h => Option.some.inj h ▸ ai_cd_1
  | 2, h => Option.some.inj h ▸ ai_cd_2
  | 3, h => Option.some.inj h ▸ ai_cd_3
  | 4, h => Option.some.inj h ▸ ai_cd_4
  | 5, h => Option.some.inj h ▸ ai_cd_5
  | 6, h => Option.some.inj h ▸ ai_cd_6
  | 7, h => Option.some.inj h ▸ ai_cd_7
  | 8, h => Option.some.inj h ▸ ai_cd_8
  | 9, h => Option.some.inj h ▸ ai_cd_9
  | 10, h => Option.some.inj h ▸ ai_cd_10
  | 11, h => Option.some.inj h ▸ ai_cd_11
  | 12, h => Option.some.inj h ▸ ai_cd_12
  | 13, h => Option.some.inj h ▸ ai_cd_13
  | 14, h => Option.some.inj h ▸ ai_cd_14
  | 15, h => Option.some.inj h ▸ ai_cd_15
  | 16, h => Option.some.inj h ▸ ai_cd_16
  | 17, h => Option.some.inj h ▸ ai_cd_17
  | 18, h => Option.some.inj h ▸ ai_cd_18
  | 19, h => Option.some.inj h ▸ ai_cd_19
  | _ + 20, h => nomatch h
theorem ai_cds_1 : ∀ (mi : Nat) (r : MethodName × ByteArray × Option FieldType × List Nat), ai_rows_1[mi]? = some r → ai_cdw (mi + 20) r ∈ lw_tbl := fun mi r h => match mi, h with
  | 0, h => Option.some.inj h ▸ ai_cd_20
  | 1, h => Option.some.inj h ▸ ai_cd_21
  | 2, h => Option.some.inj h ▸ ai_cd_22
  | 3, h => Option.some.inj h ▸ ai_cd_23
  | 4, h => Option.some.inj h ▸ ai_cd_24
  | 5, h => Option.some.inj h ▸ ai_cd_25
  | 6, h => Option.some.inj h ▸ ai_cd_26
  | 7, h => Option.some.inj h ▸ ai_cd_27
  | 8, h => Option.some.inj h ▸ ai_cd_28
  | 9, h => Option.some.inj h ▸ ai_cd_29
  | 10, h => Option.some.inj h ▸ ai_cd_30
  | 11, h => Option.some.inj h ▸ ai_cd_31
  | 12, h => Option.some.inj h ▸ ai_cd_32
  | 13, h => Option.some.inj h ▸ ai_cd_33
  | 14, h => Option.some.inj h ▸ ai_cd_34
  | 15, h => Option.some.inj h ▸ ai_cd_35
  | 16, h => Option.some.inj h ▸ ai_cd_36
  | 17, h => Option.some.inj h ▸ ai_cd_37
  | 18, h => Option.some.inj h ▸ ai_cd_38
  | 19, h => Option.some.inj h ▸ ai_cd_39
  | _ + 20, h => nomatch h
theorem ai_cds_2 : ∀ (mi : Nat) (r : MethodName × ByteArray × Option FieldType × List Nat), ai_rows_2[mi]? = some r → ai_cdw (mi + 40) r ∈ lw_tbl := fun mi r h => match mi, h with
  | 0, h => Option.some.inj h ▸ ai_cd_40
  | 1, h => Option.some.inj h ▸ ai_cd_41
  | 2, h => Option.some.inj h ▸ ai_cd_42
  | 3, h => Option.some.inj h ▸ ai_cd_43
  | 4, h => Option.some.inj h ▸ ai_cd_44
  | 5, h => Option.some.inj h ▸ ai_cd_45
  | 6, h => Option.some.inj h ▸ ai_cd_46
  | 7, h => Option.some.inj h ▸ ai_cd_47
  | 8, h => Option.some.inj h ▸ ai_cd_48
  | 9, h => Option.some.inj h ▸ ai_cd_49
  | 10, h => Option.some.inj h ▸ ai_cd_50
  | 11, h => Option.some.inj h ▸ ai_cd_51
  | 12, h => Option.some.inj h ▸ ai_cd_52
  | 13, h => Option.some.inj h ▸ ai_cd_53
  | 14, h => Option.some.inj h ▸ ai_cd_54
  | 15, h => Option.some.inj h ▸ ai_cd_55
  | 16, h => Option.some.inj h ▸ ai_cd_56
  | 17, h => Option.some.inj h ▸ ai_cd_57
  | 18, h => Option.some.inj h ▸ ai_cd_58
  | 19, h => Option.some.inj h ▸ ai_cd_59
  | _ + 20, h => nomatch h
theorem ai_cds_3 : ∀ (mi : Nat) (r : MethodName × ByteArray × Option FieldType × List Nat), ai_rows_3[mi]? = some r → ai_cdw (mi + 60) r ∈ lw_tbl := fun mi r h => match mi, h with
  | 0, h => Option.some.inj h ▸ ai_cd_60
  | 1, h => Option.some.inj h ▸ ai_cd_61
  | 2, h => Option.some.inj h ▸ ai_cd_62
  | 3, h => Option.some.inj h ▸ ai_cd_63
  | 4, h => Option.some.inj h ▸ ai_cd_64
  | 5, h => Option.some.inj h ▸ ai_cd_65
  | 6, h => Option.some.inj h ▸ ai_cd_66
  | 7, h => Option.some.inj h ▸ ai_cd_67
  | 8, h => Option.some.inj h ▸ ai_cd_68
  | 9, h => Option.some.inj h ▸ ai_cd_69
  | 10, h => Option.some.inj h ▸ ai_cd_70
  | 11, h => Option.some.inj h ▸ ai_cd_71
  | 12, h => Option.some.inj h ▸ ai_cd_72
  | 13, h => Option.some.inj h ▸ ai_cd_73
  | 14, h => Option.some.inj h ▸ ai_cd_74
  | 15, h => Option.some.inj h ▸ ai_cd_75
  | 16, h => Option.some.inj h ▸ ai_cd_76
  | 17, h => Option.some.inj h ▸ ai_cd_77
  | 18, h => Option.some.inj h ▸ ai_cd_78
  | 19, h => Option.some.inj h ▸ ai_cd_79
  | _ + 20, h => nomatch h
theorem ai_cds_4 : ∀ (mi : Nat) (r : MethodName × ByteArray × Option FieldType × List Nat), ai_rows_4[mi]? = some r → ai_cdw (mi + 80) r ∈ lw_tbl := fun mi r h => match mi, h with
  | 0, h => Option.some.inj h ▸ ai_cd_80
  | 1, h => Option.some.inj h ▸ ai_cd_81
  | 2, h => Option.some.inj h ▸ ai_cd_82
  | 3, h => Option.some.inj h ▸ ai_cd_83
  | 4, h => Option.some.inj h ▸ ai_cd_84
  | 5, h => Option.some.inj h ▸ ai_cd_85
  | 6, h => Option.some.inj h ▸ ai_cd_86
  | 7, h => Option.some.inj h ▸ ai_cd_87
  | 8, h => Option.some.inj h ▸ ai_cd_88
  | 9, h => Option.some.inj h ▸ ai_cd_89
  | 10, h => Option.some.inj h ▸ ai_cd_90
  | 11, h => Option.some.inj h ▸ ai_cd_91
  | 12, h => Option.some.inj h ▸ ai_cd_92
  | 13, h => Option.some.inj h ▸ ai_cd_93
  | 14, h => Option.some.inj h ▸ ai_cd_94
  | 15, h => Option.some.inj h ▸ ai_cd_95
  | 16, h => Option.some.inj h ▸ ai_cd_96
  | 17, h => Option.some.inj h ▸ ai_cd_97
  | 18, h => Option.some.inj h ▸ ai_cd_98
  | 19, h => Option.some.inj h ▸ ai_cd_99
  | _ + 20, h => nomatch h
theorem ai_cds_5 : ∀ (mi : Nat) (r : MethodName × ByteArray × Option FieldType × List Nat), ai_rows_5[mi]? = some r → ai_cdw (mi + 100) r ∈ lw_tbl := fun mi r h => match mi, h with
  | 0, h => Option.some.inj h ▸ ai_cd_100
  | 1, h => Option.some.inj h ▸ ai_cd_101
  | 2, h => Option.some.inj h ▸ ai_cd_102
  | 3, h => Option.some.inj h ▸ ai_cd_103
  | 4, h => Option.some.inj h ▸ ai_cd_104
  | 5, h => Option.some.inj h ▸ ai_cd_105
  | 6, h => Option.some.inj h ▸ ai_cd_106
  | 7, h => Option.some.inj h ▸ ai_cd_107
  | 8, h => Option.some.inj h ▸ ai_cd_108
  | 9, h => Option.some.inj h ▸ ai_cd_109
  | 10, h => Option.some.inj h ▸ ai_cd_110
  | 11, h => Option.some.inj h ▸ ai_cd_111
  | 12, h => Option.some.inj h ▸ ai_cd_112
  | 13, h => Option.some.inj h ▸ ai_cd_113
  | 14, h => Option.some.inj h ▸ ai_cd_114
  | 15, h => Option.some.inj h ▸ ai_cd_115
  | 16, h => Option.some.inj h ▸ ai_cd_116
  | 17, h => Option.some.inj h ▸ ai_cd_117
  | 18, h => Option.some.inj h ▸ ai_cd_118
  | 19, h => Option.some.inj h ▸ ai_cd_119
  | _ + 20, h => nomatch h
theorem ai_cds_6 : ∀ (mi : Nat) (r : MethodName × ByteArray × Option FieldType × List Nat), ai_rows_6[mi]? = some r → ai_cdw (mi + 120) r ∈ lw_tbl := fun mi r h => match mi, h with
  | 0, h => Option.some.inj h ▸ ai_cd_120
  | 1, h => Option.some.inj h ▸ ai_cd_121
  | 2, h => Option.some.inj h ▸ ai_cd_122
  | 3, h => Option.some.inj h ▸ ai_cd_123
  | 4, h => Option.some.inj h ▸ ai_cd_124
  | 5, h => Option.some.inj h ▸ ai_cd_125
  | 6, h => Option.some.inj h ▸ ai_cd_126
  | 7, h => Option.some.inj h ▸ ai_cd_127
  | 8, h => Option.some.inj h ▸ ai_cd_128
  | 9, h => Option.some.inj h ▸ ai_cd_129
  | 10, h => Option.some.inj h ▸ ai_cd_130
  | 11, h => Option.some.inj h ▸ ai_cd_131
  | 12, h => Option.some.inj h ▸ ai_cd_132
  | 13, h => Option.some.inj h ▸ ai_cd_133
  | 14, h => Option.some.inj h ▸ ai_cd_134
  | 15, h => Option.some.inj h ▸ ai_cd_135
  | 16, h => Option.some.inj h ▸ ai_cd_136
  | 17, h => Option.some.inj h ▸ ai_cd_137
  | 18, h => Option.some.inj h ▸ ai_cd_138
  | 19, h => Option.some.inj h ▸ ai_cd_139
  | _ + 20, h => nomatch h
theorem ai_cds_7 : ∀ (mi : Nat) (r : MethodName × ByteArray × Option FieldType × List Nat), ai_rows_7[mi]? = some r → ai_cdw (mi + 140) r ∈ lw_tbl := fun mi r h => match mi, h with
  | 0, h => Option.some.inj h ▸ ai_cd_140
  | 1, h => Option.some.inj h ▸ ai_cd_141
  | 2, h => Option.some.inj h ▸ ai_cd_142
  | 3, h => Option.some.inj h ▸ ai_cd_143
  | 4, h => Option.some.inj h ▸ ai_cd_144
  | 5, h => Option.some.inj h ▸ ai_cd_145
  | 6, h => Option.some.inj h ▸ ai_cd_146
  | 7, h => Option.some.inj h ▸ ai_cd_147
  | 8, h => Option.some.inj h ▸ ai_cd_148
  | 9, h => Option.some.inj h ▸ ai_cd_149
  | 10, h => Option.some.inj h ▸ ai_cd_150
  | 11, h => Option.some.inj h ▸ ai_cd_151
  | 12, h => Option.some.inj h ▸ ai_cd_152
  | 13, h => Option.some.inj h ▸ ai_cd_153
  | 14, h => Option.some.inj h ▸ ai_cd_154
  | 15, h => Option.some.inj h ▸ ai_cd_155
  | 16, h => Option.some.inj h ▸ ai_cd_156
  | 17, h => Option.some.inj h ▸ ai_cd_157
  | 18, h => Option.some.inj h ▸ ai_cd_158
  | 19, h => Option.some.inj h ▸ ai_cd_159
  | _ + 20, h => nomatch h
theorem ai_cds_8 : ∀ (mi : Nat) (r : MethodName × ByteArray × Option FieldType × List Nat), ai_rows_8[mi]? = some r → ai_cdw (mi + 160) r ∈ lw_tbl := fun mi r h => match mi, h with
  | 0, h => Option.some.inj h ▸ ai_cd_160
  | 1, h => Option.some.inj h ▸ ai_cd_161
  | 2, h => Option.some.inj h ▸ ai_cd_162
  | 3, h => Option.some.inj h ▸ ai_cd_163
  | 4, h => Option.some.inj h ▸ ai_cd_164
  | 5, h => Option.some.inj h ▸ ai_cd_165
  | 6, h => Option.some.inj h ▸ ai_cd_166
  | 7, h => Option.some.inj h ▸ ai_cd_167
  | 8, h => Option.some.inj h ▸ ai_cd_168
  | 9, h => Option.some.inj h ▸ ai_cd_169
  | 10, h => Option.some.inj h ▸ ai_cd_170
  | 11, h => Option.some.inj h ▸ ai_cd_171
  | 12, h => Option.some.inj h ▸ ai_cd_172
  | 13, h => Option.some.inj h ▸ ai_cd_173
  | 14, h => Option.some.inj h ▸ ai_cd_174
  | 15, h => Option.some.inj h ▸ ai_cd_175
  | 16, h => Option.some.inj h ▸ ai_cd_176
  | 17, h => Option.some.inj h ▸ ai_cd_177
  | 18, h => Option.some.inj h ▸ ai_cd_178
  | 19, h => Option.some.inj h ▸ ai_cd_179
  | _ + 20, h => nomatch h
theorem ai_cds_9 : ∀ (mi : Nat) (r : MethodName × ByteArray × Option FieldType × List Nat), ai_rows_9[mi]? = some r → ai_cdw (mi + 180) r ∈ lw_tbl := fun mi r h => match mi, h with
  | 0, h => Option.some.inj h ▸ ai_cd_180
  | 1, h => Option.some.inj h ▸ ai_cd_181
  | 2, h => Option.some.inj h ▸ ai_cd_182
  | 3, h => Option.some.inj h ▸ ai_cd_183
  | 4, h => Option.some.inj h ▸ ai_cd_184
  | 5, h => Option.some.inj h ▸ ai_cd_185
  | 6, h => Option.some.inj h ▸ ai_cd_186
  | 7, h => Option.some.inj h ▸ ai_cd_187
  | 8, h => Option.some.inj h ▸ ai_cd_188
  | 9, h => Option.some.inj h ▸ ai_cd_189
  | 10, h => Option.some.inj h ▸ ai_cd_190
  | 11, h => Option.some.inj h ▸ ai_cd_191
  | 12, h => Option.some.inj h ▸ ai_cd_192
  | 13, h => Option.some.inj h ▸ ai_cd_193
  | 14, h => Option.some.inj h ▸ ai_cd_194
  | 15, h => Option.some.inj h ▸ ai_cd_195
  | 16, h => Option.some.inj h ▸ ai_cd_196
  | 17, h => Option.some.inj h ▸ ai_cd_197
  | 18, h => Option.some.inj h ▸ ai_cd_198
  | 19, h => Option.some.inj h ▸ ai_cd_199
  | _ + 20, h => nomatch h
theorem ai_cds_10 : ∀ (mi : Nat) (r : MethodName × ByteArray × Option FieldType × List Nat), ai_rows_10[mi]? = some r → ai_cdw (mi + 200) r ∈ lw_tbl := fun mi r h => match mi, h with
  | 0, h => Option.some.inj h ▸ ai_cd_200
  | 1, h => Option.some.inj h ▸ ai_cd_201
  | 2, h => Option.some.inj h ▸ ai_cd_202
  | 3, h => Option.some.inj h ▸ ai_cd_203
  | 4, h => Option.some.inj h ▸ ai_cd_204
  | 5, h => Option.some.inj h ▸ ai_cd_205
  | 6, h => Option.some.inj h ▸ ai_cd_206
  | 7, h => Option.some.inj h ▸ ai_cd_207
  | 8, h => Option.some.inj h ▸ ai_cd_208
  | 9, h => Option.some.inj h ▸ ai_cd_209
  | 10, h => Option.some.inj h ▸ ai_cd_210
  | 11, h => Option.some.inj h ▸ ai_cd_211
  | 12, h => Option.some.inj h ▸ ai_cd_212
  | 13, h => Option.some.inj h ▸ ai_cd_213
  | 14, h => Option.some.inj h ▸ ai_cd_214
  | 15, h => Option.some.inj h ▸ ai_cd_215
  | _ + 16, h => nomatch h

/-! WHICH ENTRY IS WHICH (by program wip/whole/words.py) -/
theorem jg_m1 {w : Cond} (i : Nat) (h : tables_1_1[i]? = some w) (hg : goodWord w = true) : w ∈ jg_ws := List.mem_filter.mpr ⟨List.mem_append_right _ (List.mem_append_left _ (List.mem_of_getElem? h)), hg⟩
theorem jg_m2 {w : Cond} (i : Nat) (h : tables_1_2[i]? = some w) (hg : goodWord w = true) : w ∈ jg_ws := List.mem_filter.mpr ⟨List.mem_append_right _ (List.mem_append_right _ (List.mem_append_left _ (List.mem_of_getElem? h))), hg⟩
theorem jg_m3 {w : Cond} (i : Nat) (h : tables_1_3[i]? = some w) (hg : goodWord w = true) : w ∈ jg_ws := List.mem_filter.mpr ⟨List.mem_append_right _ (List.mem_append_right _ (List.mem_append_right _ (List.mem_append_left _ (List.mem_of_getElem? h)))), hg⟩
theorem jg_m4 {w : Cond} (i : Nat) (h : tables_1_4[i]? = some w) (hg : goodWord w = true) : w ∈ jg_ws := List.mem_filter.mpr ⟨List.mem_append_right _ (List.mem_append_right _ (List.mem_append_right _ (List.mem_append_right _ (List.mem_append_left _ (List.mem_of_getElem? h))))), hg⟩
theorem jg_m5 {w : Cond} (i : Nat) (h : tables_1_5[i]? = some w) (hg : goodWord w = true) : w ∈ jg_ws := List.mem_filter.mpr ⟨List.mem_append_right _ (List.mem_append_right _ (List.mem_append_right _ (List.mem_append_right _ (List.mem_append_right _ (List.mem_append_left _ (List.mem_of_getElem? h)))))), hg⟩
theorem jg_m6 {w : Cond} (i : Nat) (h : tables_1_6[i]? = some w) (hg : goodWord w = true) : w ∈ jg_ws := List.mem_filter.mpr ⟨List.mem_append_right _ (List.mem_append_right _ (List.mem_append_right _ (List.mem_append_right _ (List.mem_append_right _ (List.mem_append_right _ (List.mem_append_left _ (List.mem_of_getElem? h))))))), hg⟩
theorem jg_m7 {w : Cond} (i : Nat) (h : tables_1_7[i]? = some w) (hg : goodWord w = true) : w ∈ jg_ws := List.mem_filter.mpr ⟨List.mem_append_right _ (List.mem_append_right _ (List.mem_append_right _ (List.mem_append_right _ (List.mem_append_right _ (List.mem_append_right _ (List.mem_append_right _ (List.mem_append_left _ (List.mem_of_getElem? h)))))))), hg⟩
theorem jg_m8 {w : Cond} (i : Nat) (h : tables_1_8[i]? = some w) (hg : goodWord w = true) : w ∈ jg_ws := List.mem_filter.mpr ⟨List.mem_append_right _ (List.mem_append_right _ (List.mem_append_right _ (List.mem_append_right _ (List.mem_append_right _ (List.mem_append_right _ (List.mem_append_right _ (List.mem_append_right _ (List.mem_append_left _ (List.mem_of_getElem? h))))))))), hg⟩
theorem jg_m9 {w : Cond} (i : Nat) (h : tables_1_9[i]? = some w) (hg : goodWord w = true) : w ∈ jg_ws := List.mem_filter.mpr ⟨List.mem_append_right _ (List.mem_append_right _ (List.mem_append_right _ (List.mem_append_right _ (List.mem_append_right _ (List.mem_append_right _ (List.mem_append_right _ (List.mem_append_right _ (List.mem_append_right _ (List.mem_append_left _ (List.mem_of_getElem? h)))))))))), hg⟩
theorem jg_m10 {w : Cond} (i : Nat) (h : tables_1_10[i]? = some w) (hg : goodWord w = true) : w ∈ jg_ws := List.mem_filter.mpr ⟨List.mem_append_right _ (List.mem_append_right _ (List.mem_append_right _ (List.mem_append_right _ (List.mem_append_right _ (List.mem_append_right _ (List.mem_append_right _ (List.mem_append_right _ (List.mem_append_right _ (List.mem_append_right _ (List.mem_of_getElem? h)))))))))), hg⟩
theorem jg_memP {w : Cond} (i : Nat) (h : (k2_sels lw_privs)[i]? = some w) (hg : goodWord w = true) : w ∈ jg_ws := List.mem_filter.mpr ⟨List.mem_append_left _ (List.mem_of_getElem? h), hg⟩
abbrev mX11_init : jg_Md := (yX11_init, cX11_init, 1, none)
abbrev mX7_init : jg_Md := (yX7_init, cX7_init, 1, none)
abbrev mX2_init : jg_Md := (yX2_init, cX2_init, 1, none)
abbrev mX8_init : jg_Md := (yX8_init, cX8_init, 1, none)
abbrev mJ7_fill_53178 : jg_Md := (yJ7_fill_53178, cJ7_fill_53178, 4, none)
abbrev mX10_init : jg_Md := (yX10_init, cX10_init, 1, none)
abbrev mX3_init : jg_Md := (yX3_init, cX3_init, 2, none)
abbrev mX0_init : jg_Md := (yX0_init, cX0_init, 7, none)
abbrev mX5_init : jg_Md := (yX5_init, cX5_init, 3, none)
abbrev mX1_init : jg_Md := (yX1_init, cX1_init, 1, none)
abbrev mX9_init : jg_Md := (yX9_init, cX9_init, 2, none)
abbrev mX6_init : jg_Md := (yX6_init, cX6_init, 1, none)
abbrev mX4_init : jg_Md := (yX4_init, cX4_init, 1, none)
abbrev mX11_feed : jg_Md := (yX11_feed, cX11_feed, 6, (some .int))
abbrev mX11_addBytes : jg_Md := (yX11_addBytes, cX11_addBytes, 3, none)
abbrev mX11_end : jg_Md := (yX11_end, cX11_end, 2, (some .boolean))
abbrev mX11_fault : jg_Md := (yX11_fault, cX11_fault, 1, (some .int))
abbrev mX11_bring : jg_Md := (yX11_bring, cX11_bring, 1, (some .int))
abbrev mX2_leastToBringIn : jg_Md := (yX2_leastToBringIn, cX2_leastToBringIn, 6, (some .int))
abbrev mX2_actOfToday : jg_Md := (yX2_actOfToday, cX2_actOfToday, 1, (some (.object "SiltHarbour$Act")))
abbrev mX2_today : jg_Md := (yX2_today, cX2_today, 1, (some .int))
abbrev mX3_onDay : jg_Md := (yX3_onDay, cX3_onDay, 4, (some (.object "SiltHarbour$Act")))
abbrev mX0_lastNumber : jg_Md := (yX0_lastNumber, cX0_lastNumber, 4, (some .int))
abbrev mX2_fillDepths : jg_Md := (yX2_fillDepths, cX2_fillDepths, 3, none)
abbrev mX4_beginBringing : jg_Md := (yX4_beginBringing, cX4_beginBringing, 1, none)
abbrev mX5_nextInTurn : jg_Md := (yX5_nextInTurn, cX5_nextInTurn, 5, (some .int))
abbrev mX5_isAhead : jg_Md := (yX5_isAhead, cX5_isAhead, 6, (some .boolean))
abbrev mX9_turnValue : jg_Md := (yX9_turnValue, cX9_turnValue, 2, (some .int))
abbrev mX9_keyValue : jg_Md := (yX9_keyValue, cX9_keyValue, 2, (some .int))
abbrev mX4_addWaiting : jg_Md := (yX4_addWaiting, cX4_addWaiting, 3, none)
abbrev mX8_fillWaysIn : jg_Md := (yX8_fillWaysIn, cX8_fillWaysIn, 6, none)
abbrev mJ9_min_7cf53 : jg_Md := (yJ9_min_7cf53, cJ9_min_7cf53, 2, (some .int))
abbrev mX1_isClosed : jg_Md := (yX1_isClosed, cX1_isClosed, 1, (some .boolean))
abbrev mX1_sunk : jg_Md := (yX1_sunk, cX1_sunk, 1, (some .int))
abbrev mX4_useBerth : jg_Md := (yX4_useBerth, cX4_useBerth, 5, none)
abbrev mX4_layOn : jg_Md := (yX4_layOn, cX4_layOn, 7, none)
abbrev mX4_firstBegin : jg_Md := (yX4_firstBegin, cX4_firstBegin, 5, (some .int))
abbrev mX4_joinSets : jg_Md := (yX4_joinSets, cX4_joinSets, 4, none)
abbrev mX4_leastSum : jg_Md := (yX4_leastSum, cX4_leastSum, 2, (some .int))
abbrev mX11_keep : jg_Md := (yX11_keep, cX11_keep, 1, none)
abbrev mX2_copyFrom : jg_Md := (yX2_copyFrom, cX2_copyFrom, 2, none)
abbrev mX8_copyFrom : jg_Md := (yX8_copyFrom, cX8_copyFrom, 2, none)
abbrev mX11_copyRow : jg_Md := (yX11_copyRow, cX11_copyRow, 2, none)
abbrev mX10_copyFrom : jg_Md := (yX10_copyFrom, cX10_copyFrom, 2, none)
abbrev mX5_copyFrom : jg_Md := (yX5_copyFrom, cX5_copyFrom, 3, none)
abbrev mX1_copyFrom : jg_Md := (yX1_copyFrom, cX1_copyFrom, 2, none)
abbrev mX9_copyFrom : jg_Md := (yX9_copyFrom, cX9_copyFrom, 2, none)
abbrev mX9_build : jg_Md := (yX9_build, cX9_build, 5, none)
abbrev mX6_copyFrom : jg_Md := (yX6_copyFrom, cX6_copyFrom, 2, none)
abbrev mX3_copyFrom : jg_Md := (yX3_copyFrom, cX3_copyFrom, 3, none)
abbrev mX4_copyFrom : jg_Md := (yX4_copyFrom, cX4_copyFrom, 2, none)
abbrev mX11_again : jg_Md := (yX11_again, cX11_again, 1, (some .boolean))
abbrev mX11_count : jg_Md := (yX11_count, cX11_count, 2, (some .int))
abbrev mX2_year : jg_Md := (yX2_year, cX2_year, 1, (some .int))
abbrev mX5_countInState : jg_Md := (yX5_countInState, cX5_countInState, 4, (some .int))
abbrev mX5_freePilots : jg_Md := (yX5_freePilots, cX5_freePilots, 1, (some .int))
abbrev mJ9_max_7cf53 : jg_Md := (yJ9_max_7cf53, cJ9_max_7cf53, 2, (some .int))
abbrev mX5_loadOfAll : jg_Md := (yX5_loadOfAll, cX5_loadOfAll, 3, (some .int))
abbrev mX11_countMore : jg_Md := (yX11_countMore, cX11_countMore, 2, (some .int))
abbrev mX5_countTouches : jg_Md := (yX5_countTouches, cX5_countTouches, 3, (some .int))
abbrev mX6_owedInAll : jg_Md := (yX6_owedInAll, cX6_owedInAll, 3, (some .int))
abbrev mX11_sumOf : jg_Md := (yX11_sumOf, cX11_sumOf, 3, (some .int))
abbrev mX11_river : jg_Md := (yX11_river, cX11_river, 6, none)
abbrev mX11_needCell : jg_Md := (yX11_needCell, cX11_needCell, 1, none)
abbrev mX11_needIndex : jg_Md := (yX11_needIndex, cX11_needIndex, 2, none)
abbrev mX11_within : jg_Md := (yX11_within, cX11_within, 3, (some .boolean))
abbrev mX11_needArgument : jg_Md := (yX11_needArgument, cX11_needArgument, 1, none)
abbrev mX11_needState : jg_Md := (yX11_needState, cX11_needState, 1, none)
abbrev mX11_tide : jg_Md := (yX11_tide, cX11_tide, 3, none)
abbrev mX11_run : jg_Md := (yX11_run, cX11_run, 3, (some .int))
abbrev mX8_tellRun : jg_Md := (yX8_tellRun, cX8_tellRun, 3, (some .int))
abbrev mX11_dredger : jg_Md := (yX11_dredger, cX11_dredger, 2, (some .int))
abbrev mX11_needRoom : jg_Md := (yX11_needRoom, cX11_needRoom, 2, none)
abbrev mX8_addDredger : jg_Md := (yX8_addDredger, cX8_addDredger, 2, (some .int))
abbrev mX11_station : jg_Md := (yX11_station, cX11_station, 4, (some .boolean))
abbrev mX11_needCellOrNone : jg_Md := (yX11_needCellOrNone, cX11_needCellOrNone, 1, none)
abbrev mX8_send : jg_Md := (yX8_send, cX8_send, 5, (some .boolean))
abbrev mX11_cell : jg_Md := (yX11_cell, cX11_cell, 3, (some .int))
abbrev mX2_depthAsOf : jg_Md := (yX2_depthAsOf, cX2_depthAsOf, 4, (some .int))
abbrev mX10_latest : jg_Md := (yX10_latest, cX10_latest, 5, (some .int))
abbrev mX11_sound : jg_Md := (yX11_sound, cX11_sound, 4, (some .int))
abbrev mX10_tell : jg_Md := (yX10_tell, cX10_tell, 5, (some .int))
abbrev mX11_known : jg_Md := (yX11_known, cX11_known, 3, (some .int))
abbrev mX11_berth : jg_Md := (yX11_berth, cX11_berth, 5, (some .int))
abbrev mX5_addBerth : jg_Md := (yX5_addBerth, cX5_addBerth, 5, (some .int))
abbrev mX1_build : jg_Md := (yX1_build, cX1_build, 5, none)
abbrev mX11_hands : jg_Md := (yX11_hands, cX11_hands, 3, none)
abbrev mX11_payer : jg_Md := (yX11_payer, cX11_payer, 1, (some .int))
abbrev mX6_addPayer : jg_Md := (yX6_addPayer, cX6_addPayer, 1, (some .int))
abbrev mX11_ship : jg_Md := (yX11_ship, cX11_ship, 10, (some .int))
abbrev mX9_come : jg_Md := (yX9_come, cX9_come, 3, none)
abbrev mX11_hours : jg_Md := (yX11_hours, cX11_hours, 3, (some .int))
abbrev mX2_passHour : jg_Md := (yX2_passHour, cX2_passHour, 3, none)
abbrev mX5_nextHourOfPilots : jg_Md := (yX5_nextHourOfPilots, cX5_nextHourOfPilots, 2, none)
abbrev mX5_arrive : jg_Md := (yX5_arrive, cX5_arrive, 4, none)
abbrev mX5_holderOf : jg_Md := (yX5_holderOf, cX5_holderOf, 3, (some (.object "SiltHarbour$Ship")))
abbrev mX5_hasInState : jg_Md := (yX5_hasInState, cX5_hasInState, 3, (some .boolean))
abbrev mX2_shipsLeave : jg_Md := (yX2_shipsLeave, cX2_shipsLeave, 5, none)
abbrev mX5_cellOf : jg_Md := (yX5_cellOf, cX5_cellOf, 2, (some .int))
abbrev mX8_bears : jg_Md := (yX8_bears, cX8_bears, 8, (some .boolean))
abbrev mX2_leave : jg_Md := (yX2_leave, cX2_leave, 3, none)
abbrev mX2_stayOf : jg_Md := (yX2_stayOf, cX2_stayOf, 2, (some .int))
abbrev mX2_dueBy : jg_Md := (yX2_dueBy, cX2_dueBy, 4, (some .int))
abbrev mX2_askOfShip : jg_Md := (yX2_askOfShip, cX2_askOfShip, 4, none)
abbrev mX0_sum : jg_Md := (yX0_sum, cX0_sum, 5, (some .int))
abbrev mX0_holds : jg_Md := (yX0_holds, cX0_holds, 8, (some .boolean))
abbrev mX11_capped : jg_Md := (yX11_capped, cX11_capped, 2, (some .int))
abbrev mJ9_min_f86c9 : jg_Md := (yJ9_min_f86c9, cJ9_min_f86c9, 4, (some .long))
abbrev mX5_freeBerth : jg_Md := (yX5_freeBerth, cX5_freeBerth, 2, none)
abbrev mX5_takePilot : jg_Md := (yX5_takePilot, cX5_takePilot, 3, none)
abbrev mX6_takeDue : jg_Md := (yX6_takeDue, cX6_takeDue, 3, none)
abbrev mX2_shipsComeIn : jg_Md := (yX2_shipsComeIn, cX2_shipsComeIn, 6, none)
abbrev mX2_deepestWayIn : jg_Md := (yX2_deepestWayIn, cX2_deepestWayIn, 5, (some .int))
abbrev mX2_firstThatCanComeIn : jg_Md := (yX2_firstThatCanComeIn, cX2_firstThatCanComeIn, 7, (some .int))
abbrev mX5_firstBerthFor : jg_Md := (yX5_firstBerthFor, cX5_firstBerthFor, 5, (some .int))
abbrev mX2_comeIn : jg_Md := (yX2_comeIn, cX2_comeIn, 5, none)
abbrev mX1_take : jg_Md := (yX1_take, cX1_take, 2, none)
abbrev mX5_unload : jg_Md := (yX5_unload, cX5_unload, 4, none)
abbrev mX5_cart : jg_Md := (yX5_cart, cX5_cart, 4, none)
abbrev mX5_fullestBerth : jg_Md := (yX5_fullestBerth, cX5_fullestBerth, 4, (some .int))
abbrev mX5_weigh : jg_Md := (yX5_weigh, cX5_weigh, 2, none)
abbrev mX8_endDay : jg_Md := (yX8_endDay, cX8_endDay, 3, none)
abbrev mX8_runOf : jg_Md := (yX8_runOf, cX8_runOf, 4, (some .int))
abbrev mX8_silt : jg_Md := (yX8_silt, cX8_silt, 6, none)
abbrev mX8_dig : jg_Md := (yX8_dig, cX8_dig, 5, none)
abbrev mX6_endYear : jg_Md := (yX6_endYear, cX6_endYear, 3, none)
abbrev mX6_payRank : jg_Md := (yX6_payRank, cX6_payRank, 4, none)
abbrev mX11_led : jg_Md := (yX11_led, cX11_led, 4, (some .int))
abbrev mX2_countAheadOf : jg_Md := (yX2_countAheadOf, cX2_countAheadOf, 5, (some .int))
abbrev mX11_quay : jg_Md := (yX11_quay, cX11_quay, 4, (some .int))
abbrev mX11_window : jg_Md := (yX11_window, cX11_window, 4, (some .int))
abbrev mX2_firstSafeHour : jg_Md := (yX2_firstSafeHour, cX2_firstSafeHour, 6, (some .int))
abbrev mX11_act : jg_Md := (yX11_act, cX11_act, 4, (some .int))
abbrev mX11_useTape : jg_Md := (yX11_useTape, cX11_useTape, 2, (some .int))
abbrev mX7_read : jg_Md := (yX7_read, cX7_read, 6, (some (.object "SiltHarbour$Act")))
abbrev mX7_findThings : jg_Md := (yX7_findThings, cX7_findThings, 5, none)
abbrev mX7_goesOn : jg_Md := (yX7_goesOn, cX7_goesOn, 2, (some .boolean))
abbrev mX7_isLetter : jg_Md := (yX7_isLetter, cX7_isLetter, 1, (some .boolean))
abbrev mX7_isDigit : jg_Md := (yX7_isDigit, cX7_isDigit, 1, (some .boolean))
abbrev mX7_thingOf : jg_Md := (yX7_thingOf, cX7_thingOf, 5, (some .int))
abbrev mX7_wordOf : jg_Md := (yX7_wordOf, cX7_wordOf, 4, (some .int))
abbrev mX7_placeOf : jg_Md := (yX7_placeOf, cX7_placeOf, 7, (some .int))
abbrev mJ0_length_8abf5 : jg_Md := (yJ0_length_8abf5, cJ0_length_8abf5, 1, (some .int))
abbrev mJ0_coder_7d493 : jg_Md := (yJ0_coder_7d493, cJ0_coder_7d493, 1, (some .byte))
abbrev mJ0_charAt_5068e : jg_Md := (yJ0_charAt_5068e, cJ0_charAt_5068e, 2, (some .char))
abbrev mJ0_isLatin1_aae02 : jg_Md := (yJ0_isLatin1_aae02, cJ0_isLatin1_aae02, 1, (some .boolean))
abbrev mJ1_charAt_3b067 : jg_Md := (yJ1_charAt_3b067, cJ1_charAt_3b067, 2, (some .char))
abbrev mJ0_checkIndex_df160 : jg_Md := (yJ0_checkIndex_df160, cJ0_checkIndex_df160, 2, none)
abbrev mJ3_checkIndex_8e157 : jg_Md := (yJ3_checkIndex_8e157, cJ3_checkIndex_8e157, 3, (some .int))
abbrev mJ2_charAt_3b067 : jg_Md := (yJ2_charAt_3b067, cJ2_charAt_3b067, 2, (some .char))
abbrev mJ2_checkIndex_2214a : jg_Md := (yJ2_checkIndex_2214a, cJ2_checkIndex_2214a, 2, none)
abbrev mJ2_length_9d52b : jg_Md := (yJ2_length_9d52b, cJ2_length_9d52b, 1, (some .int))
abbrev mJ2_getChar_3b067 : jg_Md := (yJ2_getChar_3b067, cJ2_getChar_3b067, 2, (some .char))
abbrev mX7_numberOf : jg_Md := (yX7_numberOf, cX7_numberOf, 5, (some .int))
abbrev mX7_addThing : jg_Md := (yX7_addThing, cX7_addThing, 3, none)
abbrev mX7_thing : jg_Md := (yX7_thing, cX7_thing, 1, (some .int))
abbrev mX7_readLine : jg_Md := (yX7_readLine, cX7_readLine, 3, (some .boolean))
abbrev mX7_keyOf : jg_Md := (yX7_keyOf, cX7_keyOf, 1, (some .int))
abbrev mX7_mostOf : jg_Md := (yX7_mostOf, cX7_mostOf, 1, (some .int))
abbrev mX7_readAny : jg_Md := (yX7_readAny, cX7_readAny, 2, (some .boolean))
abbrev mX7_readAll : jg_Md := (yX7_readAll, cX7_readAll, 2, (some .boolean))
abbrev mX7_readAtom : jg_Md := (yX7_readAtom, cX7_readAtom, 4, (some .boolean))
abbrev mX7_readClosed : jg_Md := (yX7_readClosed, cX7_readClosed, 2, (some .boolean))
abbrev mX7_readDenied : jg_Md := (yX7_readDenied, cX7_readDenied, 2, (some .boolean))
abbrev mX7_addStep : jg_Md := (yX7_addStep, cX7_addStep, 3, none)
abbrev mX7_readLimit : jg_Md := (yX7_readLimit, cX7_readLimit, 4, (some .boolean))
abbrev mJ7_copyOf_59c91 : jg_Md := (yJ7_copyOf_59c91, cJ7_copyOf_59c91, 3, (some (.array .int)))
abbrev mX6_everPaid : jg_Md := (yX6_everPaid, cX6_everPaid, 2, (some .boolean))
abbrev mX3_pass : jg_Md := (yX3_pass, cX3_pass, 3, none)
abbrev mX11_propose : jg_Md := (yX11_propose, cX11_propose, 4, (some .int))
abbrev mX3_beginVote : jg_Md := (yX3_beginVote, cX3_beginVote, 4, none)
abbrev mX11_vote : jg_Md := (yX11_vote, cX11_vote, 3, (some .int))
abbrev mX2_votesOf : jg_Md := (yX2_votesOf, cX2_votesOf, 2, (some .int))
abbrev mX3_say : jg_Md := (yX3_say, cX3_say, 4, (some .int))
abbrev mX11_close : jg_Md := (yX11_close, cX11_close, 1, (some .boolean))
abbrev mX3_endVote : jg_Md := (yX3_endVote, cX3_endVote, 5, (some .boolean))
abbrev mX11_judge : jg_Md := (yX11_judge, cX11_judge, 5, (some .int))
abbrev mX0_firstThatHolds : jg_Md := (yX0_firstThatHolds, cX0_firstThatHolds, 4, (some .int))
abbrev mX0_greatest : jg_Md := (yX0_greatest, cX0_greatest, 5, (some .int))
abbrev mX11_back : jg_Md := (yX11_back, cX11_back, 2, (some .int))
abbrev mX2_payBack : jg_Md := (yX2_payBack, cX2_payBack, 4, (some .int))
abbrev mX6_giveBack : jg_Md := (yX6_giveBack, cX6_giveBack, 3, (some .int))
abbrev mX11_pays : jg_Md := (yX11_pays, cX11_pays, 3, (some .int))
abbrev mX5_countShipsOf : jg_Md := (yX5_countShipsOf, cX5_countShipsOf, 4, (some .int))
abbrev mX11_cash : jg_Md := (yX11_cash, cX11_cash, 2, (some .int))
abbrev mX11_bond : jg_Md := (yX11_bond, cX11_bond, 6, (some .int))
abbrev mX6_borrowed : jg_Md := (yX6_borrowed, cX6_borrowed, 4, (some .int))
abbrev mX6_sell : jg_Md := (yX6_sell, cX6_sell, 5, (some .int))
abbrev mX11_owes : jg_Md := (yX11_owes, cX11_owes, 3, (some .int))
abbrev mX11_work : jg_Md := (yX11_work, cX11_work, 5, (some .int))
abbrev mX4_addWork : jg_Md := (yX4_addWork, cX4_addWork, 4, (some .int))
abbrev mX11_worth : jg_Md := (yX11_worth, cX11_worth, 3, (some .int))
abbrev mX4_worthOf : jg_Md := (yX4_worthOf, cX4_worthOf, 7, (some .int))
abbrev mX11_best : jg_Md := (yX11_best, cX11_best, 2, (some .int))
abbrev mX4_bestSet : jg_Md := (yX4_bestSet, cX4_bestSet, 6, (some .int))
abbrev mJ6_bitCount_0f7a4 : jg_Md := (yJ6_bitCount_0f7a4, cJ6_bitCount_0f7a4, 1, (some .int))
abbrev mX11_another : jg_Md := (yX11_another, cX11_another, 4, (some .int))
abbrev mX2_underAnother : jg_Md := (yX2_underAnother, cX2_underAnother, 10, (some .int))
abbrev mX12_thrown : jg_Md := (yX12_thrown, cX12_thrown, 1, (some .int))
abbrev mX12_init : jg_Md := (yX12_init, cX12_init, 2, none)
abbrev mX12_keep : jg_Md := (yX12_keep, cX12_keep, 2, none)
abbrev mX12_again : jg_Md := (yX12_again, cX12_again, 2, (some .boolean))
abbrev mX12_river : jg_Md := (yX12_river, cX12_river, 6, none)
abbrev mX12_noCell : jg_Md := (yX12_noCell, cX12_noCell, 1, (some .boolean))
abbrev mX12_in : jg_Md := (yX12_in, cX12_in, 3, (some .boolean))
abbrev mX12_throwsIf : jg_Md := (yX12_throwsIf, cX12_throwsIf, 3, (some .boolean))
abbrev mX12_hour : jg_Md := (yX12_hour, cX12_hour, 1, (some .int))
abbrev mX12_tide : jg_Md := (yX12_tide, cX12_tide, 3, none)
abbrev mX12_run : jg_Md := (yX12_run, cX12_run, 4, (some .int))
abbrev mX12_today : jg_Md := (yX12_today, cX12_today, 1, (some .int))
abbrev mX12_dredger : jg_Md := (yX12_dredger, cX12_dredger, 3, (some .int))
abbrev mX12_station : jg_Md := (yX12_station, cX12_station, 6, (some .boolean))
abbrev mX12_sound : jg_Md := (yX12_sound, cX12_sound, 5, (some .int))
abbrev mX12_known : jg_Md := (yX12_known, cX12_known, 3, (some .int))
abbrev mX12_knownOf : jg_Md := (yX12_knownOf, cX12_knownOf, 5, (some .int))
abbrev mX12_cell : jg_Md := (yX12_cell, cX12_cell, 3, (some .int))
abbrev mX12_berth : jg_Md := (yX12_berth, cX12_berth, 6, (some .int))
abbrev mX12_berthAt : jg_Md := (yX12_berthAt, cX12_berthAt, 2, (some .int))
abbrev mX12_hands : jg_Md := (yX12_hands, cX12_hands, 3, none)
abbrev mX12_payer : jg_Md := (yX12_payer, cX12_payer, 1, (some .int))
abbrev mX12_ship : jg_Md := (yX12_ship, cX12_ship, 10, (some .int))
abbrev mX12_noPayer : jg_Md := (yX12_noPayer, cX12_noPayer, 2, (some .boolean))
abbrev mX12_sets : jg_Md := (yX12_sets, cX12_sets, 4, none)
abbrev mX12_shipAt : jg_Md := (yX12_shipAt, cX12_shipAt, 2, (some .int))
abbrev mX12_actOf : jg_Md := (yX12_actOf, cX12_actOf, 4, (some .int))
abbrev mX12_actAt : jg_Md := (yX12_actAt, cX12_actAt, 1, (some .int))
abbrev mX12_window : jg_Md := (yX12_window, cX12_window, 5, (some .int))
abbrev mX12_noShip : jg_Md := (yX12_noShip, cX12_noShip, 2, (some .boolean))
abbrev mX12_noBerth : jg_Md := (yX12_noBerth, cX12_noBerth, 2, (some .boolean))
abbrev mX12_looks : jg_Md := (yX12_looks, cX12_looks, 2, none)
abbrev mX12_of : jg_Md := (yX12_of, cX12_of, 3, (some .int))
abbrev mX12_berthOf : jg_Md := (yX12_berthOf, cX12_berthOf, 3, (some .int))
abbrev mX12_isSafe : jg_Md := (yX12_isSafe, cX12_isSafe, 8, (some .boolean))
abbrev mX12_clearance : jg_Md := (yX12_clearance, cX12_clearance, 1, (some .int))
abbrev mX12_lastOf : jg_Md := (yX12_lastOf, cX12_lastOf, 6, (some .int))
abbrev mX12_linesOf : jg_Md := (yX12_linesOf, cX12_linesOf, 2, (some .int))
abbrev mX12_hourAt : jg_Md := (yX12_hourAt, cX12_hourAt, 4, (some .int))
abbrev mX12_tideOf : jg_Md := (yX12_tideOf, cX12_tideOf, 2, (some .int))
abbrev mX12_hours : jg_Md := (yX12_hours, cX12_hours, 3, (some .int))
abbrev mX12_anHour : jg_Md := (yX12_anHour, cX12_anHour, 3, none)
abbrev mX12_leaves : jg_Md := (yX12_leaves, cX12_leaves, 6, none)
abbrev mX12_freePilots : jg_Md := (yX12_freePilots, cX12_freePilots, 3, (some .int))
abbrev mX12_touches : jg_Md := (yX12_touches, cX12_touches, 7, none)
abbrev mX12_pilots : jg_Md := (yX12_pilots, cX12_pilots, 2, none)
abbrev mX12_dueOf : jg_Md := (yX12_dueOf, cX12_dueOf, 4, (some .int))
abbrev mX12_looksAtShip : jg_Md := (yX12_looksAtShip, cX12_looksAtShip, 3, none)
abbrev mX12_sumOf : jg_Md := (yX12_sumOf, cX12_sumOf, 6, (some .long))
abbrev mX12_holds : jg_Md := (yX12_holds, cX12_holds, 8, (some .boolean))
abbrev mX12_added : jg_Md := (yX12_added, cX12_added, 3, (some .int))
abbrev mX12_payerAt : jg_Md := (yX12_payerAt, cX12_payerAt, 2, (some .int))
abbrev mX12_lines : jg_Md := (yX12_lines, cX12_lines, 6, none)
abbrev mX12_keyOf : jg_Md := (yX12_keyOf, cX12_keyOf, 3, (some .int))
abbrev mX12_comes : jg_Md := (yX12_comes, cX12_comes, 4, none)
abbrev mX12_mayHave : jg_Md := (yX12_mayHave, cX12_mayHave, 3, (some .boolean))
abbrev mX12_isClosed : jg_Md := (yX12_isClosed, cX12_isClosed, 2, (some .boolean))
abbrev mX12_unloads : jg_Md := (yX12_unloads, cX12_unloads, 4, none)
abbrev mX12_hauls : jg_Md := (yX12_hauls, cX12_hauls, 3, none)
abbrev mX12_dayEnds : jg_Md := (yX12_dayEnds, cX12_dayEnds, 2, none)
abbrev mX12_settles : jg_Md := (yX12_settles, cX12_settles, 4, none)
abbrev mX12_runOf : jg_Md := (yX12_runOf, cX12_runOf, 4, (some .int))
abbrev mX12_digs : jg_Md := (yX12_digs, cX12_digs, 4, none)
abbrev mX12_yearEnds : jg_Md := (yX12_yearEnds, cX12_yearEnds, 4, none)
abbrev mX12_year : jg_Md := (yX12_year, cX12_year, 1, (some .int))
abbrev mX12_bondOf : jg_Md := (yX12_bondOf, cX12_bondOf, 3, (some .int))
abbrev mX12_bondAt : jg_Md := (yX12_bondAt, cX12_bondAt, 2, (some .int))
abbrev mX12_paysBond : jg_Md := (yX12_paysBond, cX12_paysBond, 5, none)
abbrev mX12_led : jg_Md := (yX12_led, cX12_led, 4, (some .int))
abbrev mX12_quay : jg_Md := (yX12_quay, cX12_quay, 3, (some .int))
abbrev mX12_feed : jg_Md := (yX12_feed, cX12_feed, 7, (some .int))
abbrev mX12_end : jg_Md := (yX12_end, cX12_end, 2, (some .boolean))
abbrev mX12_fault : jg_Md := (yX12_fault, cX12_fault, 1, (some .int))
abbrev mX12_act : jg_Md := (yX12_act, cX12_act, 3, (some .int))
abbrev mX12_uses : jg_Md := (yX12_uses, cX12_uses, 1, none)
abbrev mX12_reads : jg_Md := (yX12_reads, cX12_reads, 2, (some .int))
abbrev mX12_readAll : jg_Md := (yX12_readAll, cX12_readAll, 2, (some .int))
abbrev mX12_blanks : jg_Md := (yX12_blanks, cX12_blanks, 1, none)
abbrev mX12_isAt : jg_Md := (yX12_isAt, cX12_isAt, 3, (some .boolean))
abbrev mX12_readLine : jg_Md := (yX12_readLine, cX12_readLine, 4, (some .boolean))
abbrev mX12_word : jg_Md := (yX12_word, cX12_word, 1, none)
abbrev mX12_sortOf : jg_Md := (yX12_sortOf, cX12_sortOf, 1, (some .int))
abbrev mX12_isWord : jg_Md := (yX12_isWord, cX12_isWord, 4, (some .boolean))
abbrev mX12_readTurn : jg_Md := (yX12_readTurn, cX12_readTurn, 3, (some .boolean))
abbrev mX12_passes : jg_Md := (yX12_passes, cX12_passes, 2, (some .boolean))
abbrev mX12_number : jg_Md := (yX12_number, cX12_number, 3, (some .int))
abbrev mX12_readCond : jg_Md := (yX12_readCond, cX12_readCond, 1, (some .boolean))
abbrev mX12_readAllOf : jg_Md := (yX12_readAllOf, cX12_readAllOf, 1, (some .boolean))
abbrev mX12_readAtom : jg_Md := (yX12_readAtom, cX12_readAtom, 4, (some .boolean))
abbrev mX12_sign : jg_Md := (yX12_sign, cX12_sign, 2, (some .boolean))
abbrev mX12_adds : jg_Md := (yX12_adds, cX12_adds, 4, none)
abbrev mX12_wordOf : jg_Md := (yX12_wordOf, cX12_wordOf, 1, (some .int))
abbrev mX12_factOf : jg_Md := (yX12_factOf, cX12_factOf, 1, (some .int))
abbrev mX12_copies : jg_Md := (yX12_copies, cX12_copies, 5, none)
abbrev mX12_judge : jg_Md := (yX12_judge, cX12_judge, 5, (some .int))
abbrev mX12_firstOf : jg_Md := (yX12_firstOf, cX12_firstOf, 4, (some .int))
abbrev mX12_mostBack : jg_Md := (yX12_mostBack, cX12_mostBack, 4, (some .int))
abbrev mX12_back : jg_Md := (yX12_back, cX12_back, 3, (some .int))
abbrev mX12_propose : jg_Md := (yX12_propose, cX12_propose, 4, (some .int))
abbrev mX12_vote : jg_Md := (yX12_vote, cX12_vote, 4, (some .int))
abbrev mX12_votesOf : jg_Md := (yX12_votesOf, cX12_votesOf, 2, (some .int))
abbrev mX12_looksAtPayer : jg_Md := (yX12_looksAtPayer, cX12_looksAtPayer, 2, none)
abbrev mX12_close : jg_Md := (yX12_close, cX12_close, 1, (some .boolean))
abbrev mX12_pays : jg_Md := (yX12_pays, cX12_pays, 5, (some .int))
abbrev mX12_cash : jg_Md := (yX12_cash, cX12_cash, 2, (some .int))
abbrev mX12_bond : jg_Md := (yX12_bond, cX12_bond, 9, (some .int))
abbrev mX12_isOver : jg_Md := (yX12_isOver, cX12_isOver, 2, (some .boolean))
abbrev mX12_owes : jg_Md := (yX12_owes, cX12_owes, 3, (some .int))
abbrev mX12_bring : jg_Md := (yX12_bring, cX12_bring, 5, (some .int))
abbrev mX12_brings : jg_Md := (yX12_brings, cX12_brings, 8, none)
abbrev mX12_work : jg_Md := (yX12_work, cX12_work, 6, (some .int))
abbrev mX12_worth : jg_Md := (yX12_worth, cX12_worth, 3, (some .int))
abbrev mX12_worthOf : jg_Md := (yX12_worthOf, cX12_worthOf, 8, (some .int))
abbrev mX12_best : jg_Md := (yX12_best, cX12_best, 6, (some .int))
abbrev mX12_another : jg_Md := (yX12_another, cX12_another, 8, (some .int))
abbrev mX12_count : jg_Md := (yX12_count, cX12_count, 4, (some .int))
abbrev mX12_sumCells : jg_Md := (yX12_sumCells, cX12_sumCells, 4, (some .int))
set_option maxRecDepth 20000 in
theorem wc_X11_init : Cond.code mX11_init.1 mX11_init.2.1 mX11_init.2.2.1 mX11_init.2.2.2 ∈ jg_ws := (jg_m1 34 rfl rfl)
set_option maxRecDepth 20000 in
theorem wn_X11_init : Cond.instanceMethod yX11_init ∈ jg_ws := (jg_m1 33 rfl rfl)
set_option maxRecDepth 20000 in
theorem wc_X7_init : Cond.code mX7_init.1 mX7_init.2.1 mX7_init.2.2.1 mX7_init.2.2.2 ∈ jg_ws := (jg_m1 42 rfl rfl)
set_option maxRecDepth 20000 in
theorem wn_X7_init : Cond.instanceMethod yX7_init ∈ jg_ws := (jg_m1 41 rfl rfl)
set_option maxRecDepth 20000 in
theorem wc_X2_init : Cond.code mX2_init.1 mX2_init.2.1 mX2_init.2.2.1 mX2_init.2.2.2 ∈ jg_ws := (jg_m1 88 rfl rfl)
set_option maxRecDepth 20000 in
theorem wn_X2_init : Cond.instanceMethod yX2_init ∈ jg_ws := (jg_m1 87 rfl rfl)
set_option maxRecDepth 20000 in
theorem wc_X8_init : Cond.code mX8_init.1 mX8_init.2.1 mX8_init.2.2.1 mX8_init.2.2.2 ∈ jg_ws := (jg_m1 94 rfl rfl)
set_option maxRecDepth 20000 in
theorem wn_X8_init : Cond.instanceMethod yX8_init ∈ jg_ws := (jg_m1 93 rfl rfl)
set_option maxRecDepth 20000 in
theorem wc_J7_fill_53178 : Cond.code mJ7_fill_53178.1 mJ7_fill_53178.2.1 mJ7_fill_53178.2.2.1 mJ7_fill_53178.2.2.2 ∈ jg_ws := (jg_m1 98 rfl rfl)
set_option maxRecDepth 20000 in
theorem wt_J7_fill_53178 : Cond.static yJ7_fill_53178 ∈ jg_ws := (jg_m1 97 rfl rfl)
set_option maxRecDepth 20000 in
theorem wc_X10_init : Cond.code mX10_init.1 mX10_init.2.1 mX10_init.2.2.1 mX10_init.2.2.2 ∈ jg_ws := (jg_m1 156 rfl rfl)
set_option maxRecDepth 20000 in
theorem wn_X10_init : Cond.instanceMethod yX10_init ∈ jg_ws := (jg_m1 155 rfl rfl)
set_option maxRecDepth 20000 in
theorem wc_X3_init : Cond.code mX3_init.1 mX3_init.2.1 mX3_init.2.2.1 mX3_init.2.2.2 ∈ jg_ws := (jg_m1 185 rfl rfl)
set_option maxRecDepth 20000 in
theorem wn_X3_init : Cond.instanceMethod yX3_init ∈ jg_ws := (jg_m1 184 rfl rfl)
set_option maxRecDepth 20000 in
theorem wc_X0_init : Cond.code mX0_init.1 mX0_init.2.1 mX0_init.2.2.1 mX0_init.2.2.2 ∈ jg_ws := (jg_m1 191 rfl rfl)
set_option maxRecDepth 20000 in
theorem wn_X0_init : Cond.instanceMethod yX0_init ∈ jg_ws := (jg_m1 190 rfl rfl)
set_option maxRecDepth 20000 in
theorem wc_X5_init : Cond.code mX5_init.1 mX5_init.2.1 mX5_init.2.2.1 mX5_init.2.2.2 ∈ jg_ws := (jg_m2 13 rfl rfl)
set_option maxRecDepth 20000 in
theorem wn_X5_init : Cond.instanceMethod yX5_init ∈ jg_ws := (jg_m2 12 rfl rfl)
set_option maxRecDepth 20000 in
theorem wc_X1_init : Cond.code mX1_init.1 mX1_init.2.1 mX1_init.2.2.1 mX1_init.2.2.2 ∈ jg_ws := (jg_m2 20 rfl rfl)
set_option maxRecDepth 20000 in
theorem wn_X1_init : Cond.instanceMethod yX1_init ∈ jg_ws := (jg_m2 19 rfl rfl)
set_option maxRecDepth 20000 in
theorem wc_X9_init : Cond.code mX9_init.1 mX9_init.2.1 mX9_init.2.2.1 mX9_init.2.2.2 ∈ jg_ws := (jg_m2 76 rfl rfl)
set_option maxRecDepth 20000 in
theorem wn_X9_init : Cond.instanceMethod yX9_init ∈ jg_ws := (jg_m2 75 rfl rfl)
set_option maxRecDepth 20000 in
theorem wc_X6_init : Cond.code mX6_init.1 mX6_init.2.1 mX6_init.2.2.1 mX6_init.2.2.2 ∈ jg_ws := (jg_m2 218 rfl rfl)
set_option maxRecDepth 20000 in
theorem wn_X6_init : Cond.instanceMethod yX6_init ∈ jg_ws := (jg_m2 217 rfl rfl)
set_option maxRecDepth 20000 in
theorem wc_X4_init : Cond.code mX4_init.1 mX4_init.2.1 mX4_init.2.2.1 mX4_init.2.2.2 ∈ jg_ws := (jg_m3 41 rfl rfl)
set_option maxRecDepth 20000 in
theorem wn_X4_init : Cond.instanceMethod yX4_init ∈ jg_ws := (jg_m3 40 rfl rfl)
set_option maxRecDepth 20000 in
theorem wc_X11_feed : Cond.code mX11_feed.1 mX11_feed.2.1 mX11_feed.2.2.1 mX11_feed.2.2.2 ∈ jg_ws := (jg_m3 141 rfl rfl)
set_option maxRecDepth 20000 in
theorem wn_X11_feed : Cond.instanceMethod yX11_feed ∈ jg_ws := (jg_m3 139 rfl rfl)
set_option maxRecDepth 20000 in
theorem we_X11_feed : Cond.selects yX11_feed.cls yX11_feed yX11_feed ∈ jg_ws := (jg_m3 140 rfl rfl)
set_option maxRecDepth 20000 in
theorem wc_X11_addBytes : Cond.code mX11_addBytes.1 mX11_addBytes.2.1 mX11_addBytes.2.2.1 mX11_addBytes.2.2.2 ∈ jg_ws := (jg_m3 145 rfl rfl)
set_option maxRecDepth 20000 in
theorem wn_X11_addBytes : Cond.instanceMethod yX11_addBytes ∈ jg_ws := (jg_m3 144 rfl rfl)
theorem we_X11_addBytes : Cond.selects yX11_addBytes.cls yX11_addBytes yX11_addBytes ∈ jg_ws := (jg_memP 0 (by decide +kernel) rfl)
set_option maxRecDepth 20000 in
theorem wc_X11_end : Cond.code mX11_end.1 mX11_end.2.1 mX11_end.2.2.1 mX11_end.2.2.2 ∈ jg_ws := (jg_m3 149 rfl rfl)
set_option maxRecDepth 20000 in
theorem wn_X11_end : Cond.instanceMethod yX11_end ∈ jg_ws := (jg_m3 147 rfl rfl)
set_option maxRecDepth 20000 in
theorem we_X11_end : Cond.selects yX11_end.cls yX11_end yX11_end ∈ jg_ws := (jg_m3 148 rfl rfl)
set_option maxRecDepth 20000 in
theorem wc_X11_fault : Cond.code mX11_fault.1 mX11_fault.2.1 mX11_fault.2.2.1 mX11_fault.2.2.2 ∈ jg_ws := (jg_m3 153 rfl rfl)
set_option maxRecDepth 20000 in
theorem wn_X11_fault : Cond.instanceMethod yX11_fault ∈ jg_ws := (jg_m3 151 rfl rfl)
set_option maxRecDepth 20000 in
theorem we_X11_fault : Cond.selects yX11_fault.cls yX11_fault yX11_fault ∈ jg_ws := (jg_m3 152 rfl rfl)
set_option maxRecDepth 20000 in
theorem wc_X11_bring : Cond.code mX11_bring.1 mX11_bring.2.1 mX11_bring.2.2.1 mX11_bring.2.2.2 ∈ jg_ws := (jg_m3 157 rfl rfl)
set_option maxRecDepth 20000 in
theorem wn_X11_bring : Cond.instanceMethod yX11_bring ∈ jg_ws := (jg_m3 155 rfl rfl)
set_option maxRecDepth 20000 in
theorem we_X11_bring : Cond.selects yX11_bring.cls yX11_bring yX11_bring ∈ jg_ws := (jg_m3 156 rfl rfl)
set_option maxRecDepth 20000 in
theorem wc_X2_leastToBringIn : Cond.code mX2_leastToBringIn.1 mX2_leastToBringIn.2.1 mX2_leastToBringIn.2.2.1 mX2_leastToBringIn.2.2.2 ∈ jg_ws := (jg_m3 161 rfl rfl)
set_option maxRecDepth 20000 in
theorem wn_X2_leastToBringIn : Cond.instanceMethod yX2_leastToBringIn ∈ jg_ws := (jg_m3 159 rfl rfl)
set_option maxRecDepth 20000 in
theorem we_X2_leastToBringIn : Cond.selects yX2_leastToBringIn.cls yX2_leastToBringIn yX2_leastToBringIn ∈ jg_ws := (jg_m3 160 rfl rfl)
set_option maxRecDepth 20000 in
theorem wc_X2_actOfToday : Cond.code mX2_actOfToday.1 mX2_actOfToday.2.1 mX2_actOfToday.2.2.1 mX2_actOfToday.2.2.2 ∈ jg_ws := (jg_m3 165 rfl rfl)
set_option maxRecDepth 20000 in
theorem wn_X2_actOfToday : Cond.instanceMethod yX2_actOfToday ∈ jg_ws := (jg_m3 163 rfl rfl)
set_option maxRecDepth 20000 in
theorem we_X2_actOfToday : Cond.selects yX2_actOfToday.cls yX2_actOfToday yX2_actOfToday ∈ jg_ws := (jg_m3 164 rfl rfl)
set_option maxRecDepth 20000 in
theorem wc_X2_today : Cond.code mX2_today.1 mX2_today.2.1 mX2_today.2.2.1 mX2_today.2.2.2 ∈ jg_ws := (jg_m3 169 rfl rfl)
set_option maxRecDepth 20000 in
theorem wn_X2_today : Cond.instanceMethod yX2_today ∈ jg_ws := (jg_m3 167 rfl rfl)
set_option maxRecDepth 20000 in
theorem we_X2_today : Cond.selects yX2_today.cls yX2_today yX2_today ∈ jg_ws := (jg_m3 168 rfl rfl)
set_option maxRecDepth 20000 in
theorem wc_X3_onDay : Cond.code mX3_onDay.1 mX3_onDay.2.1 mX3_onDay.2.2.1 mX3_onDay.2.2.2 ∈ jg_ws := (jg_m3 173 rfl rfl)
set_option maxRecDepth 20000 in
theorem wn_X3_onDay : Cond.instanceMethod yX3_onDay ∈ jg_ws := (jg_m3 171 rfl rfl)
set_option maxRecDepth 20000 in
theorem we_X3_onDay : Cond.selects yX3_onDay.cls yX3_onDay yX3_onDay ∈ jg_ws := (jg_m3 172 rfl rfl)
set_option maxRecDepth 20000 in
theorem wc_X0_lastNumber : Cond.code mX0_lastNumber.1 mX0_lastNumber.2.1 mX0_lastNumber.2.2.1 mX0_lastNumber.2.2.2 ∈ jg_ws := (jg_m3 177 rfl rfl)
set_option maxRecDepth 20000 in
theorem wn_X0_lastNumber : Cond.instanceMethod yX0_lastNumber ∈ jg_ws := (jg_m3 175 rfl rfl)
set_option maxRecDepth 20000 in
theorem we_X0_lastNumber : Cond.selects yX0_lastNumber.cls yX0_lastNumber yX0_lastNumber ∈ jg_ws := (jg_m3 176 rfl rfl)
set_option maxRecDepth 20000 in
theorem wc_X2_fillDepths : Cond.code mX2_fillDepths.1 mX2_fillDepths.2.1 mX2_fillDepths.2.2.1 mX2_fillDepths.2.2.2 ∈ jg_ws := (jg_m3 181 rfl rfl)
set_option maxRecDepth 20000 in
theorem wn_X2_fillDepths : Cond.instanceMethod yX2_fillDepths ∈ jg_ws := (jg_m3 180 rfl rfl)
theorem we_X2_fillDepths : Cond.selects yX2_fillDepths.cls yX2_fillDepths yX2_fillDepths ∈ jg_ws := (jg_memP 1 (by decide +kernel) rfl)
set_option maxRecDepth 20000 in
theorem wc_X4_beginBringing : Cond.code mX4_beginBringing.1 mX4_beginBringing.2.1 mX4_beginBringing.2.2.1 mX4_beginBringing.2.2.2 ∈ jg_ws := (jg_m3 185 rfl rfl)
set_option maxRecDepth 20000 in
theorem wn_X4_beginBringing : Cond.instanceMethod yX4_beginBringing ∈ jg_ws := (jg_m3 183 rfl rfl)
set_option maxRecDepth 20000 in
theorem we_X4_beginBringing : Cond.selects yX4_beginBringing.cls yX4_beginBringing yX4_beginBringing ∈ jg_ws := (jg_m3 184 rfl rfl)
set_option maxRecDepth 20000 in
theorem wc_X5_nextInTurn : Cond.code mX5_nextInTurn.1 mX5_nextInTurn.2.1 mX5_nextInTurn.2.2.1 mX5_nextInTurn.2.2.2 ∈ jg_ws := (jg_m3 191 rfl rfl)
set_option maxRecDepth 20000 in
theorem wn_X5_nextInTurn : Cond.instanceMethod yX5_nextInTurn ∈ jg_ws := (jg_m3 189 rfl rfl)
set_option maxRecDepth 20000 in
theorem we_X5_nextInTurn : Cond.selects yX5_nextInTurn.cls yX5_nextInTurn yX5_nextInTurn ∈ jg_ws := (jg_m3 190 rfl rfl)
set_option maxRecDepth 20000 in
theorem wc_X5_isAhead : Cond.code mX5_isAhead.1 mX5_isAhead.2.1 mX5_isAhead.2.2.1 mX5_isAhead.2.2.2 ∈ jg_ws := (jg_m3 195 rfl rfl)
set_option maxRecDepth 20000 in
theorem wn_X5_isAhead : Cond.instanceMethod yX5_isAhead ∈ jg_ws := (jg_m3 193 rfl rfl)
set_option maxRecDepth 20000 in
theorem we_X5_isAhead : Cond.selects yX5_isAhead.cls yX5_isAhead yX5_isAhead ∈ jg_ws := (jg_m3 194 rfl rfl)
set_option maxRecDepth 20000 in
theorem wc_X9_turnValue : Cond.code mX9_turnValue.1 mX9_turnValue.2.1 mX9_turnValue.2.2.1 mX9_turnValue.2.2.2 ∈ jg_ws := (jg_m3 199 rfl rfl)
set_option maxRecDepth 20000 in
theorem wn_X9_turnValue : Cond.instanceMethod yX9_turnValue ∈ jg_ws := (jg_m3 197 rfl rfl)
set_option maxRecDepth 20000 in
theorem we_X9_turnValue : Cond.selects yX9_turnValue.cls yX9_turnValue yX9_turnValue ∈ jg_ws := (jg_m3 198 rfl rfl)
set_option maxRecDepth 20000 in
theorem wc_X9_keyValue : Cond.code mX9_keyValue.1 mX9_keyValue.2.1 mX9_keyValue.2.2.1 mX9_keyValue.2.2.2 ∈ jg_ws := (jg_m3 203 rfl rfl)
set_option maxRecDepth 20000 in
theorem wn_X9_keyValue : Cond.instanceMethod yX9_keyValue ∈ jg_ws := (jg_m3 202 rfl rfl)
theorem we_X9_keyValue : Cond.selects yX9_keyValue.cls yX9_keyValue yX9_keyValue ∈ jg_ws := (jg_memP 2 (by decide +kernel) rfl)
set_option maxRecDepth 20000 in
theorem wc_X4_addWaiting : Cond.code mX4_addWaiting.1 mX4_addWaiting.2.1 mX4_addWaiting.2.2.1 mX4_addWaiting.2.2.2 ∈ jg_ws := (jg_m3 207 rfl rfl)
set_option maxRecDepth 20000 in
theorem wn_X4_addWaiting : Cond.instanceMethod yX4_addWaiting ∈ jg_ws := (jg_m3 205 rfl rfl)
set_option maxRecDepth 20000 in
theorem we_X4_addWaiting : Cond.selects yX4_addWaiting.cls yX4_addWaiting yX4_addWaiting ∈ jg_ws := (jg_m3 206 rfl rfl)
set_option maxRecDepth 20000 in
theorem wc_X8_fillWaysIn : Cond.code mX8_fillWaysIn.1 mX8_fillWaysIn.2.1 mX8_fillWaysIn.2.2.1 mX8_fillWaysIn.2.2.2 ∈ jg_ws := (jg_m3 211 rfl rfl)
set_option maxRecDepth 20000 in
theorem wn_X8_fillWaysIn : Cond.instanceMethod yX8_fillWaysIn ∈ jg_ws := (jg_m3 209 rfl rfl)
set_option maxRecDepth 20000 in
theorem we_X8_fillWaysIn : Cond.selects yX8_fillWaysIn.cls yX8_fillWaysIn yX8_fillWaysIn ∈ jg_ws := (jg_m3 210 rfl rfl)
set_option maxRecDepth 20000 in
theorem wc_J9_min_7cf53 : Cond.code mJ9_min_7cf53.1 mJ9_min_7cf53.2.1 mJ9_min_7cf53.2.2.1 mJ9_min_7cf53.2.2.2 ∈ jg_ws := (jg_m3 214 rfl rfl)
set_option maxRecDepth 20000 in
theorem wt_J9_min_7cf53 : Cond.static yJ9_min_7cf53 ∈ jg_ws := (jg_m3 213 rfl rfl)
set_option maxRecDepth 20000 in
theorem wc_X1_isClosed : Cond.code mX1_isClosed.1 mX1_isClosed.2.1 mX1_isClosed.2.2.1 mX1_isClosed.2.2.2 ∈ jg_ws := (jg_m3 218 rfl rfl)
set_option maxRecDepth 20000 in
theorem wn_X1_isClosed : Cond.instanceMethod yX1_isClosed ∈ jg_ws := (jg_m3 216 rfl rfl)
set_option maxRecDepth 20000 in
theorem we_X1_isClosed : Cond.selects yX1_isClosed.cls yX1_isClosed yX1_isClosed ∈ jg_ws := (jg_m3 217 rfl rfl)
set_option maxRecDepth 20000 in
theorem wc_X1_sunk : Cond.code mX1_sunk.1 mX1_sunk.2.1 mX1_sunk.2.2.1 mX1_sunk.2.2.2 ∈ jg_ws := (jg_m3 222 rfl rfl)
set_option maxRecDepth 20000 in
theorem wn_X1_sunk : Cond.instanceMethod yX1_sunk ∈ jg_ws := (jg_m3 220 rfl rfl)
set_option maxRecDepth 20000 in
theorem we_X1_sunk : Cond.selects yX1_sunk.cls yX1_sunk yX1_sunk ∈ jg_ws := (jg_m3 221 rfl rfl)
set_option maxRecDepth 20000 in
theorem wc_X4_useBerth : Cond.code mX4_useBerth.1 mX4_useBerth.2.1 mX4_useBerth.2.2.1 mX4_useBerth.2.2.2 ∈ jg_ws := (jg_m3 226 rfl rfl)
set_option maxRecDepth 20000 in
theorem wn_X4_useBerth : Cond.instanceMethod yX4_useBerth ∈ jg_ws := (jg_m3 224 rfl rfl)
set_option maxRecDepth 20000 in
theorem we_X4_useBerth : Cond.selects yX4_useBerth.cls yX4_useBerth yX4_useBerth ∈ jg_ws := (jg_m3 225 rfl rfl)
set_option maxRecDepth 20000 in
theorem wc_X4_layOn : Cond.code mX4_layOn.1 mX4_layOn.2.1 mX4_layOn.2.2.1 mX4_layOn.2.2.2 ∈ jg_ws := (jg_m3 230 rfl rfl)
set_option maxRecDepth 20000 in
theorem wn_X4_layOn : Cond.instanceMethod yX4_layOn ∈ jg_ws := (jg_m3 229 rfl rfl)
theorem we_X4_layOn : Cond.selects yX4_layOn.cls yX4_layOn yX4_layOn ∈ jg_ws := (jg_memP 3 (by decide +kernel) rfl)
set_option maxRecDepth 20000 in
theorem wc_X4_firstBegin : Cond.code mX4_firstBegin.1 mX4_firstBegin.2.1 mX4_firstBegin.2.2.1 mX4_firstBegin.2.2.2 ∈ jg_ws := (jg_m3 235 rfl rfl)
set_option maxRecDepth 20000 in
theorem wn_X4_firstBegin : Cond.instanceMethod yX4_firstBegin ∈ jg_ws := (jg_m3 234 rfl rfl)
theorem we_X4_firstBegin : Cond.selects yX4_firstBegin.cls yX4_firstBegin yX4_firstBegin ∈ jg_ws := (jg_memP 4 (by decide +kernel) rfl)
set_option maxRecDepth 20000 in
theorem wc_X4_joinSets : Cond.code mX4_joinSets.1 mX4_joinSets.2.1 mX4_joinSets.2.2.1 mX4_joinSets.2.2.2 ∈ jg_ws := (jg_m3 239 rfl rfl)
set_option maxRecDepth 20000 in
theorem wn_X4_joinSets : Cond.instanceMethod yX4_joinSets ∈ jg_ws := (jg_m3 238 rfl rfl)
theorem we_X4_joinSets : Cond.selects yX4_joinSets.cls yX4_joinSets yX4_joinSets ∈ jg_ws := (jg_memP 5 (by decide +kernel) rfl)
set_option maxRecDepth 20000 in
theorem wc_X4_leastSum : Cond.code mX4_leastSum.1 mX4_leastSum.2.1 mX4_leastSum.2.2.1 mX4_leastSum.2.2.2 ∈ jg_ws := (jg_m4 3 rfl rfl)
set_option maxRecDepth 20000 in
theorem wn_X4_leastSum : Cond.instanceMethod yX4_leastSum ∈ jg_ws := (jg_m4 1 rfl rfl)
set_option maxRecDepth 20000 in
theorem we_X4_leastSum : Cond.selects yX4_leastSum.cls yX4_leastSum yX4_leastSum ∈ jg_ws := (jg_m4 2 rfl rfl)
set_option maxRecDepth 20000 in
theorem wc_X11_keep : Cond.code mX11_keep.1 mX11_keep.2.1 mX11_keep.2.2.1 mX11_keep.2.2.2 ∈ jg_ws := (jg_m4 7 rfl rfl)
set_option maxRecDepth 20000 in
theorem wn_X11_keep : Cond.instanceMethod yX11_keep ∈ jg_ws := (jg_m4 5 rfl rfl)
set_option maxRecDepth 20000 in
theorem we_X11_keep : Cond.selects yX11_keep.cls yX11_keep yX11_keep ∈ jg_ws := (jg_m4 6 rfl rfl)
set_option maxRecDepth 20000 in
theorem wc_X2_copyFrom : Cond.code mX2_copyFrom.1 mX2_copyFrom.2.1 mX2_copyFrom.2.2.1 mX2_copyFrom.2.2.2 ∈ jg_ws := (jg_m4 11 rfl rfl)
set_option maxRecDepth 20000 in
theorem wn_X2_copyFrom : Cond.instanceMethod yX2_copyFrom ∈ jg_ws := (jg_m4 9 rfl rfl)
set_option maxRecDepth 20000 in
theorem we_X2_copyFrom : Cond.selects yX2_copyFrom.cls yX2_copyFrom yX2_copyFrom ∈ jg_ws := (jg_m4 10 rfl rfl)
set_option maxRecDepth 20000 in
theorem wc_X8_copyFrom : Cond.code mX8_copyFrom.1 mX8_copyFrom.2.1 mX8_copyFrom.2.2.1 mX8_copyFrom.2.2.2 ∈ jg_ws := (jg_m4 15 rfl rfl)
set_option maxRecDepth 20000 in
theorem wn_X8_copyFrom : Cond.instanceMethod yX8_copyFrom ∈ jg_ws := (jg_m4 13 rfl rfl)
set_option maxRecDepth 20000 in
theorem we_X8_copyFrom : Cond.selects yX8_copyFrom.cls yX8_copyFrom yX8_copyFrom ∈ jg_ws := (jg_m4 14 rfl rfl)
set_option maxRecDepth 20000 in
theorem wc_X11_copyRow : Cond.code mX11_copyRow.1 mX11_copyRow.2.1 mX11_copyRow.2.2.1 mX11_copyRow.2.2.2 ∈ jg_ws := (jg_m4 18 rfl rfl)
set_option maxRecDepth 20000 in
theorem wt_X11_copyRow : Cond.static yX11_copyRow ∈ jg_ws := (jg_m4 17 rfl rfl)
set_option maxRecDepth 20000 in
theorem wc_X10_copyFrom : Cond.code mX10_copyFrom.1 mX10_copyFrom.2.1 mX10_copyFrom.2.2.1 mX10_copyFrom.2.2.2 ∈ jg_ws := (jg_m4 26 rfl rfl)
set_option maxRecDepth 20000 in
theorem wn_X10_copyFrom : Cond.instanceMethod yX10_copyFrom ∈ jg_ws := (jg_m4 24 rfl rfl)
set_option maxRecDepth 20000 in
theorem we_X10_copyFrom : Cond.selects yX10_copyFrom.cls yX10_copyFrom yX10_copyFrom ∈ jg_ws := (jg_m4 25 rfl rfl)
set_option maxRecDepth 20000 in
theorem wc_X5_copyFrom : Cond.code mX5_copyFrom.1 mX5_copyFrom.2.1 mX5_copyFrom.2.2.1 mX5_copyFrom.2.2.2 ∈ jg_ws := (jg_m4 31 rfl rfl)
set_option maxRecDepth 20000 in
theorem wn_X5_copyFrom : Cond.instanceMethod yX5_copyFrom ∈ jg_ws := (jg_m4 29 rfl rfl)
set_option maxRecDepth 20000 in
theorem we_X5_copyFrom : Cond.selects yX5_copyFrom.cls yX5_copyFrom yX5_copyFrom ∈ jg_ws := (jg_m4 30 rfl rfl)
set_option maxRecDepth 20000 in
theorem wc_X1_copyFrom : Cond.code mX1_copyFrom.1 mX1_copyFrom.2.1 mX1_copyFrom.2.2.1 mX1_copyFrom.2.2.2 ∈ jg_ws := (jg_m4 35 rfl rfl)
set_option maxRecDepth 20000 in
theorem wn_X1_copyFrom : Cond.instanceMethod yX1_copyFrom ∈ jg_ws := (jg_m4 33 rfl rfl)
set_option maxRecDepth 20000 in
theorem we_X1_copyFrom : Cond.selects yX1_copyFrom.cls yX1_copyFrom yX1_copyFrom ∈ jg_ws := (jg_m4 34 rfl rfl)
set_option maxRecDepth 20000 in
theorem wc_X9_copyFrom : Cond.code mX9_copyFrom.1 mX9_copyFrom.2.1 mX9_copyFrom.2.2.1 mX9_copyFrom.2.2.2 ∈ jg_ws := (jg_m4 39 rfl rfl)
set_option maxRecDepth 20000 in
theorem wn_X9_copyFrom : Cond.instanceMethod yX9_copyFrom ∈ jg_ws := (jg_m4 37 rfl rfl)
set_option maxRecDepth 20000 in
theorem we_X9_copyFrom : Cond.selects yX9_copyFrom.cls yX9_copyFrom yX9_copyFrom ∈ jg_ws := (jg_m4 38 rfl rfl)
set_option maxRecDepth 20000 in
theorem wc_X9_build : Cond.code mX9_build.1 mX9_build.2.1 mX9_build.2.2.1 mX9_build.2.2.2 ∈ jg_ws := (jg_m4 43 rfl rfl)
set_option maxRecDepth 20000 in
theorem wn_X9_build : Cond.instanceMethod yX9_build ∈ jg_ws := (jg_m4 41 rfl rfl)
set_option maxRecDepth 20000 in
theorem we_X9_build : Cond.selects yX9_build.cls yX9_build yX9_build ∈ jg_ws := (jg_m4 42 rfl rfl)
set_option maxRecDepth 20000 in
theorem wc_X6_copyFrom : Cond.code mX6_copyFrom.1 mX6_copyFrom.2.1 mX6_copyFrom.2.2.1 mX6_copyFrom.2.2.2 ∈ jg_ws := (jg_m4 48 rfl rfl)
set_option maxRecDepth 20000 in
theorem wn_X6_copyFrom : Cond.instanceMethod yX6_copyFrom ∈ jg_ws := (jg_m4 46 rfl rfl)
set_option maxRecDepth 20000 in
theorem we_X6_copyFrom : Cond.selects yX6_copyFrom.cls yX6_copyFrom yX6_copyFrom ∈ jg_ws := (jg_m4 47 rfl rfl)
set_option maxRecDepth 20000 in
theorem wc_X3_copyFrom : Cond.code mX3_copyFrom.1 mX3_copyFrom.2.1 mX3_copyFrom.2.2.1 mX3_copyFrom.2.2.2 ∈ jg_ws := (jg_m4 53 rfl rfl)
set_option maxRecDepth 20000 in
theorem wn_X3_copyFrom : Cond.instanceMethod yX3_copyFrom ∈ jg_ws := (jg_m4 51 rfl rfl)
set_option maxRecDepth 20000 in
theorem we_X3_copyFrom : Cond.selects yX3_copyFrom.cls yX3_copyFrom yX3_copyFrom ∈ jg_ws := (jg_m4 52 rfl rfl)
set_option maxRecDepth 20000 in
theorem wc_X4_copyFrom : Cond.code mX4_copyFrom.1 mX4_copyFrom.2.1 mX4_copyFrom.2.2.1 mX4_copyFrom.2.2.2 ∈ jg_ws := (jg_m4 58 rfl rfl)
set_option maxRecDepth 20000 in
theorem wn_X4_copyFrom : Cond.instanceMethod yX4_copyFrom ∈ jg_ws := (jg_m4 56 rfl rfl)
set_option maxRecDepth 20000 in
theorem we_X4_copyFrom : Cond.selects yX4_copyFrom.cls yX4_copyFrom yX4_copyFrom ∈ jg_ws := (jg_m4 57 rfl rfl)
set_option maxRecDepth 20000 in
theorem wc_X11_again : Cond.code mX11_again.1 mX11_again.2.1 mX11_again.2.2.1 mX11_again.2.2.2 ∈ jg_ws := (jg_m4 63 rfl rfl)
set_option maxRecDepth 20000 in
theorem wn_X11_again : Cond.instanceMethod yX11_again ∈ jg_ws := (jg_m4 61 rfl rfl)
set_option maxRecDepth 20000 in
theorem we_X11_again : Cond.selects yX11_again.cls yX11_again yX11_again ∈ jg_ws := (jg_m4 62 rfl rfl)
set_option maxRecDepth 20000 in
theorem wc_X11_count : Cond.code mX11_count.1 mX11_count.2.1 mX11_count.2.2.1 mX11_count.2.2.2 ∈ jg_ws := (jg_m4 67 rfl rfl)
set_option maxRecDepth 20000 in
theorem wn_X11_count : Cond.instanceMethod yX11_count ∈ jg_ws := (jg_m4 65 rfl rfl)
set_option maxRecDepth 20000 in
theorem we_X11_count : Cond.selects yX11_count.cls yX11_count yX11_count ∈ jg_ws := (jg_m4 66 rfl rfl)
set_option maxRecDepth 20000 in
theorem wc_X2_year : Cond.code mX2_year.1 mX2_year.2.1 mX2_year.2.2.1 mX2_year.2.2.2 ∈ jg_ws := (jg_m4 72 rfl rfl)
set_option maxRecDepth 20000 in
theorem wn_X2_year : Cond.instanceMethod yX2_year ∈ jg_ws := (jg_m4 70 rfl rfl)
set_option maxRecDepth 20000 in
theorem we_X2_year : Cond.selects yX2_year.cls yX2_year yX2_year ∈ jg_ws := (jg_m4 71 rfl rfl)
set_option maxRecDepth 20000 in
theorem wc_X5_countInState : Cond.code mX5_countInState.1 mX5_countInState.2.1 mX5_countInState.2.2.1 mX5_countInState.2.2.2 ∈ jg_ws := (jg_m4 76 rfl rfl)
set_option maxRecDepth 20000 in
theorem wn_X5_countInState : Cond.instanceMethod yX5_countInState ∈ jg_ws := (jg_m4 74 rfl rfl)
set_option maxRecDepth 20000 in
theorem we_X5_countInState : Cond.selects yX5_countInState.cls yX5_countInState yX5_countInState ∈ jg_ws := (jg_m4 75 rfl rfl)
set_option maxRecDepth 20000 in
theorem wc_X5_freePilots : Cond.code mX5_freePilots.1 mX5_freePilots.2.1 mX5_freePilots.2.2.1 mX5_freePilots.2.2.2 ∈ jg_ws := (jg_m4 80 rfl rfl)
set_option maxRecDepth 20000 in
theorem wn_X5_freePilots : Cond.instanceMethod yX5_freePilots ∈ jg_ws := (jg_m4 78 rfl rfl)
set_option maxRecDepth 20000 in
theorem we_X5_freePilots : Cond.selects yX5_freePilots.cls yX5_freePilots yX5_freePilots ∈ jg_ws := (jg_m4 79 rfl rfl)
set_option maxRecDepth 20000 in
theorem wc_J9_max_7cf53 : Cond.code mJ9_max_7cf53.1 mJ9_max_7cf53.2.1 mJ9_max_7cf53.2.2.1 mJ9_max_7cf53.2.2.2 ∈ jg_ws := (jg_m4 83 rfl rfl)
set_option maxRecDepth 20000 in
theorem wt_J9_max_7cf53 : Cond.static yJ9_max_7cf53 ∈ jg_ws := (jg_m4 82 rfl rfl)
set_option maxRecDepth 20000 in
theorem wc_X5_loadOfAll : Cond.code mX5_loadOfAll.1 mX5_loadOfAll.2.1 mX5_loadOfAll.2.2.1 mX5_loadOfAll.2.2.2 ∈ jg_ws := (jg_m4 87 rfl rfl)
set_option maxRecDepth 20000 in
theorem wn_X5_loadOfAll : Cond.instanceMethod yX5_loadOfAll ∈ jg_ws := (jg_m4 85 rfl rfl)
set_option maxRecDepth 20000 in
theorem we_X5_loadOfAll : Cond.selects yX5_loadOfAll.cls yX5_loadOfAll yX5_loadOfAll ∈ jg_ws := (jg_m4 86 rfl rfl)
set_option maxRecDepth 20000 in
theorem wc_X11_countMore : Cond.code mX11_countMore.1 mX11_countMore.2.1 mX11_countMore.2.2.1 mX11_countMore.2.2.2 ∈ jg_ws := (jg_m4 91 rfl rfl)
set_option maxRecDepth 20000 in
theorem wn_X11_countMore : Cond.instanceMethod yX11_countMore ∈ jg_ws := (jg_m4 90 rfl rfl)
theorem we_X11_countMore : Cond.selects yX11_countMore.cls yX11_countMore yX11_countMore ∈ jg_ws := (jg_memP 6 (by decide +kernel) rfl)
set_option maxRecDepth 20000 in
theorem wc_X5_countTouches : Cond.code mX5_countTouches.1 mX5_countTouches.2.1 mX5_countTouches.2.2.1 mX5_countTouches.2.2.2 ∈ jg_ws := (jg_m4 95 rfl rfl)
set_option maxRecDepth 20000 in
theorem wn_X5_countTouches : Cond.instanceMethod yX5_countTouches ∈ jg_ws := (jg_m4 93 rfl rfl)
set_option maxRecDepth 20000 in
theorem we_X5_countTouches : Cond.selects yX5_countTouches.cls yX5_countTouches yX5_countTouches ∈ jg_ws := (jg_m4 94 rfl rfl)
set_option maxRecDepth 20000 in
theorem wc_X6_owedInAll : Cond.code mX6_owedInAll.1 mX6_owedInAll.2.1 mX6_owedInAll.2.2.1 mX6_owedInAll.2.2.2 ∈ jg_ws := (jg_m4 100 rfl rfl)
set_option maxRecDepth 20000 in
theorem wn_X6_owedInAll : Cond.instanceMethod yX6_owedInAll ∈ jg_ws := (jg_m4 98 rfl rfl)
set_option maxRecDepth 20000 in
theorem we_X6_owedInAll : Cond.selects yX6_owedInAll.cls yX6_owedInAll yX6_owedInAll ∈ jg_ws := (jg_m4 99 rfl rfl)
set_option maxRecDepth 20000 in
theorem wc_X11_sumOf : Cond.code mX11_sumOf.1 mX11_sumOf.2.1 mX11_sumOf.2.2.1 mX11_sumOf.2.2.2 ∈ jg_ws := (jg_m4 103 rfl rfl)
set_option maxRecDepth 20000 in
theorem wt_X11_sumOf : Cond.static yX11_sumOf ∈ jg_ws := (jg_m4 102 rfl rfl)
set_option maxRecDepth 20000 in
theorem wc_X11_river : Cond.code mX11_river.1 mX11_river.2.1 mX11_river.2.2.1 mX11_river.2.2.2 ∈ jg_ws := (jg_m4 113 rfl rfl)
set_option maxRecDepth 20000 in
theorem wn_X11_river : Cond.instanceMethod yX11_river ∈ jg_ws := (jg_m4 111 rfl rfl)
set_option maxRecDepth 20000 in
theorem we_X11_river : Cond.selects yX11_river.cls yX11_river yX11_river ∈ jg_ws := (jg_m4 112 rfl rfl)
set_option maxRecDepth 20000 in
theorem wc_X11_needCell : Cond.code mX11_needCell.1 mX11_needCell.2.1 mX11_needCell.2.2.1 mX11_needCell.2.2.2 ∈ jg_ws := (jg_m4 116 rfl rfl)
set_option maxRecDepth 20000 in
theorem wt_X11_needCell : Cond.static yX11_needCell ∈ jg_ws := (jg_m4 115 rfl rfl)
set_option maxRecDepth 20000 in
theorem wc_X11_needIndex : Cond.code mX11_needIndex.1 mX11_needIndex.2.1 mX11_needIndex.2.2.1 mX11_needIndex.2.2.2 ∈ jg_ws := (jg_m4 119 rfl rfl)
set_option maxRecDepth 20000 in
theorem wt_X11_needIndex : Cond.static yX11_needIndex ∈ jg_ws := (jg_m4 118 rfl rfl)
set_option maxRecDepth 20000 in
theorem wc_X11_within : Cond.code mX11_within.1 mX11_within.2.1 mX11_within.2.2.1 mX11_within.2.2.2 ∈ jg_ws := (jg_m4 191 rfl rfl)
set_option maxRecDepth 20000 in
theorem wt_X11_within : Cond.static yX11_within ∈ jg_ws := (jg_m4 190 rfl rfl)
set_option maxRecDepth 20000 in
theorem wc_X11_needArgument : Cond.code mX11_needArgument.1 mX11_needArgument.2.1 mX11_needArgument.2.2.1 mX11_needArgument.2.2.2 ∈ jg_ws := (jg_m4 194 rfl rfl)
set_option maxRecDepth 20000 in
theorem wt_X11_needArgument : Cond.static yX11_needArgument ∈ jg_ws := (jg_m4 193 rfl rfl)
set_option maxRecDepth 20000 in
theorem wc_X11_needState : Cond.code mX11_needState.1 mX11_needState.2.1 mX11_needState.2.2.1 mX11_needState.2.2.2 ∈ jg_ws := (jg_m4 213 rfl rfl)
set_option maxRecDepth 20000 in
theorem wt_X11_needState : Cond.static yX11_needState ∈ jg_ws := (jg_m4 212 rfl rfl)
set_option maxRecDepth 20000 in
theorem wc_X11_tide : Cond.code mX11_tide.1 mX11_tide.2.1 mX11_tide.2.2.1 mX11_tide.2.2.2 ∈ jg_ws := (jg_m4 236 rfl rfl)
set_option maxRecDepth 20000 in
theorem wn_X11_tide : Cond.instanceMethod yX11_tide ∈ jg_ws := (jg_m4 234 rfl rfl)
set_option maxRecDepth 20000 in
theorem we_X11_tide : Cond.selects yX11_tide.cls yX11_tide yX11_tide ∈ jg_ws := (jg_m4 235 rfl rfl)
set_option maxRecDepth 20000 in
theorem wc_X11_run : Cond.code mX11_run.1 mX11_run.2.1 mX11_run.2.2.1 mX11_run.2.2.2 ∈ jg_ws := (jg_m5 3 rfl rfl)
set_option maxRecDepth 20000 in
theorem wn_X11_run : Cond.instanceMethod yX11_run ∈ jg_ws := (jg_m5 1 rfl rfl)
set_option maxRecDepth 20000 in
theorem we_X11_run : Cond.selects yX11_run.cls yX11_run yX11_run ∈ jg_ws := (jg_m5 2 rfl rfl)
set_option maxRecDepth 20000 in
theorem wc_X8_tellRun : Cond.code mX8_tellRun.1 mX8_tellRun.2.1 mX8_tellRun.2.2.1 mX8_tellRun.2.2.2 ∈ jg_ws := (jg_m5 7 rfl rfl)
set_option maxRecDepth 20000 in
theorem wn_X8_tellRun : Cond.instanceMethod yX8_tellRun ∈ jg_ws := (jg_m5 5 rfl rfl)
set_option maxRecDepth 20000 in
theorem we_X8_tellRun : Cond.selects yX8_tellRun.cls yX8_tellRun yX8_tellRun ∈ jg_ws := (jg_m5 6 rfl rfl)
set_option maxRecDepth 20000 in
theorem wc_X11_dredger : Cond.code mX11_dredger.1 mX11_dredger.2.1 mX11_dredger.2.2.1 mX11_dredger.2.2.2 ∈ jg_ws := (jg_m5 15 rfl rfl)
set_option maxRecDepth 20000 in
theorem wn_X11_dredger : Cond.instanceMethod yX11_dredger ∈ jg_ws := (jg_m5 13 rfl rfl)
set_option maxRecDepth 20000 in
theorem we_X11_dredger : Cond.selects yX11_dredger.cls yX11_dredger yX11_dredger ∈ jg_ws := (jg_m5 14 rfl rfl)
set_option maxRecDepth 20000 in
theorem wc_X11_needRoom : Cond.code mX11_needRoom.1 mX11_needRoom.2.1 mX11_needRoom.2.2.1 mX11_needRoom.2.2.2 ∈ jg_ws := (jg_m5 18 rfl rfl)
set_option maxRecDepth 20000 in
theorem wt_X11_needRoom : Cond.static yX11_needRoom ∈ jg_ws := (jg_m5 17 rfl rfl)
set_option maxRecDepth 20000 in
theorem wc_X8_addDredger : Cond.code mX8_addDredger.1 mX8_addDredger.2.1 mX8_addDredger.2.2.1 mX8_addDredger.2.2.2 ∈ jg_ws := (jg_m5 38 rfl rfl)
set_option maxRecDepth 20000 in
theorem wn_X8_addDredger : Cond.instanceMethod yX8_addDredger ∈ jg_ws := (jg_m5 36 rfl rfl)
set_option maxRecDepth 20000 in
theorem we_X8_addDredger : Cond.selects yX8_addDredger.cls yX8_addDredger yX8_addDredger ∈ jg_ws := (jg_m5 37 rfl rfl)
set_option maxRecDepth 20000 in
theorem wc_X11_station : Cond.code mX11_station.1 mX11_station.2.1 mX11_station.2.2.1 mX11_station.2.2.2 ∈ jg_ws := (jg_m5 45 rfl rfl)
set_option maxRecDepth 20000 in
theorem wn_X11_station : Cond.instanceMethod yX11_station ∈ jg_ws := (jg_m5 43 rfl rfl)
set_option maxRecDepth 20000 in
theorem we_X11_station : Cond.selects yX11_station.cls yX11_station yX11_station ∈ jg_ws := (jg_m5 44 rfl rfl)
set_option maxRecDepth 20000 in
theorem wc_X11_needCellOrNone : Cond.code mX11_needCellOrNone.1 mX11_needCellOrNone.2.1 mX11_needCellOrNone.2.2.1 mX11_needCellOrNone.2.2.2 ∈ jg_ws := (jg_m5 48 rfl rfl)
set_option maxRecDepth 20000 in
theorem wt_X11_needCellOrNone : Cond.static yX11_needCellOrNone ∈ jg_ws := (jg_m5 47 rfl rfl)
set_option maxRecDepth 20000 in
theorem wc_X8_send : Cond.code mX8_send.1 mX8_send.2.1 mX8_send.2.2.1 mX8_send.2.2.2 ∈ jg_ws := (jg_m5 52 rfl rfl)
set_option maxRecDepth 20000 in
theorem wn_X8_send : Cond.instanceMethod yX8_send ∈ jg_ws := (jg_m5 50 rfl rfl)
set_option maxRecDepth 20000 in
theorem we_X8_send : Cond.selects yX8_send.cls yX8_send yX8_send ∈ jg_ws := (jg_m5 51 rfl rfl)
set_option maxRecDepth 20000 in
theorem wc_X11_cell : Cond.code mX11_cell.1 mX11_cell.2.1 mX11_cell.2.2.1 mX11_cell.2.2.2 ∈ jg_ws := (jg_m5 60 rfl rfl)
set_option maxRecDepth 20000 in
theorem wn_X11_cell : Cond.instanceMethod yX11_cell ∈ jg_ws := (jg_m5 58 rfl rfl)
set_option maxRecDepth 20000 in
theorem we_X11_cell : Cond.selects yX11_cell.cls yX11_cell yX11_cell ∈ jg_ws := (jg_m5 59 rfl rfl)
set_option maxRecDepth 20000 in
theorem wc_X2_depthAsOf : Cond.code mX2_depthAsOf.1 mX2_depthAsOf.2.1 mX2_depthAsOf.2.2.1 mX2_depthAsOf.2.2.2 ∈ jg_ws := (jg_m5 64 rfl rfl)
set_option maxRecDepth 20000 in
theorem wn_X2_depthAsOf : Cond.instanceMethod yX2_depthAsOf ∈ jg_ws := (jg_m5 62 rfl rfl)
set_option maxRecDepth 20000 in
theorem we_X2_depthAsOf : Cond.selects yX2_depthAsOf.cls yX2_depthAsOf yX2_depthAsOf ∈ jg_ws := (jg_m5 63 rfl rfl)
set_option maxRecDepth 20000 in
theorem wc_X10_latest : Cond.code mX10_latest.1 mX10_latest.2.1 mX10_latest.2.2.1 mX10_latest.2.2.2 ∈ jg_ws := (jg_m5 68 rfl rfl)
set_option maxRecDepth 20000 in
theorem wn_X10_latest : Cond.instanceMethod yX10_latest ∈ jg_ws := (jg_m5 66 rfl rfl)
set_option maxRecDepth 20000 in
theorem we_X10_latest : Cond.selects yX10_latest.cls yX10_latest yX10_latest ∈ jg_ws := (jg_m5 67 rfl rfl)
set_option maxRecDepth 20000 in
theorem wc_X11_sound : Cond.code mX11_sound.1 mX11_sound.2.1 mX11_sound.2.2.1 mX11_sound.2.2.2 ∈ jg_ws := (jg_m5 91 rfl rfl)
set_option maxRecDepth 20000 in
theorem wn_X11_sound : Cond.instanceMethod yX11_sound ∈ jg_ws := (jg_m5 89 rfl rfl)
set_option maxRecDepth 20000 in
theorem we_X11_sound : Cond.selects yX11_sound.cls yX11_sound yX11_sound ∈ jg_ws := (jg_m5 90 rfl rfl)
set_option maxRecDepth 20000 in
theorem wc_X10_tell : Cond.code mX10_tell.1 mX10_tell.2.1 mX10_tell.2.2.1 mX10_tell.2.2.2 ∈ jg_ws := (jg_m5 95 rfl rfl)
set_option maxRecDepth 20000 in
theorem wn_X10_tell : Cond.instanceMethod yX10_tell ∈ jg_ws := (jg_m5 93 rfl rfl)
set_option maxRecDepth 20000 in
theorem we_X10_tell : Cond.selects yX10_tell.cls yX10_tell yX10_tell ∈ jg_ws := (jg_m5 94 rfl rfl)
set_option maxRecDepth 20000 in
theorem wc_X11_known : Cond.code mX11_known.1 mX11_known.2.1 mX11_known.2.2.1 mX11_known.2.2.2 ∈ jg_ws := (jg_m5 103 rfl rfl)
set_option maxRecDepth 20000 in
theorem wn_X11_known : Cond.instanceMethod yX11_known ∈ jg_ws := (jg_m5 101 rfl rfl)
set_option maxRecDepth 20000 in
theorem we_X11_known : Cond.selects yX11_known.cls yX11_known yX11_known ∈ jg_ws := (jg_m5 102 rfl rfl)
set_option maxRecDepth 20000 in
theorem wc_X11_berth : Cond.code mX11_berth.1 mX11_berth.2.1 mX11_berth.2.2.1 mX11_berth.2.2.2 ∈ jg_ws := (jg_m5 110 rfl rfl)
set_option maxRecDepth 20000 in
theorem wn_X11_berth : Cond.instanceMethod yX11_berth ∈ jg_ws := (jg_m5 108 rfl rfl)
set_option maxRecDepth 20000 in
theorem we_X11_berth : Cond.selects yX11_berth.cls yX11_berth yX11_berth ∈ jg_ws := (jg_m5 109 rfl rfl)
set_option maxRecDepth 20000 in
theorem wc_X5_addBerth : Cond.code mX5_addBerth.1 mX5_addBerth.2.1 mX5_addBerth.2.2.1 mX5_addBerth.2.2.2 ∈ jg_ws := (jg_m5 115 rfl rfl)
set_option maxRecDepth 20000 in
theorem wn_X5_addBerth : Cond.instanceMethod yX5_addBerth ∈ jg_ws := (jg_m5 113 rfl rfl)
set_option maxRecDepth 20000 in
theorem we_X5_addBerth : Cond.selects yX5_addBerth.cls yX5_addBerth yX5_addBerth ∈ jg_ws := (jg_m5 114 rfl rfl)
set_option maxRecDepth 20000 in
theorem wc_X1_build : Cond.code mX1_build.1 mX1_build.2.1 mX1_build.2.2.1 mX1_build.2.2.2 ∈ jg_ws := (jg_m5 119 rfl rfl)
set_option maxRecDepth 20000 in
theorem wn_X1_build : Cond.instanceMethod yX1_build ∈ jg_ws := (jg_m5 117 rfl rfl)
set_option maxRecDepth 20000 in
theorem we_X1_build : Cond.selects yX1_build.cls yX1_build yX1_build ∈ jg_ws := (jg_m5 118 rfl rfl)
set_option maxRecDepth 20000 in
theorem wc_X11_hands : Cond.code mX11_hands.1 mX11_hands.2.1 mX11_hands.2.2.1 mX11_hands.2.2.2 ∈ jg_ws := (jg_m5 126 rfl rfl)
set_option maxRecDepth 20000 in
theorem wn_X11_hands : Cond.instanceMethod yX11_hands ∈ jg_ws := (jg_m5 124 rfl rfl)
set_option maxRecDepth 20000 in
theorem we_X11_hands : Cond.selects yX11_hands.cls yX11_hands yX11_hands ∈ jg_ws := (jg_m5 125 rfl rfl)
set_option maxRecDepth 20000 in
theorem wc_X11_payer : Cond.code mX11_payer.1 mX11_payer.2.1 mX11_payer.2.2.1 mX11_payer.2.2.2 ∈ jg_ws := (jg_m5 133 rfl rfl)
set_option maxRecDepth 20000 in
theorem wn_X11_payer : Cond.instanceMethod yX11_payer ∈ jg_ws := (jg_m5 131 rfl rfl)
set_option maxRecDepth 20000 in
theorem we_X11_payer : Cond.selects yX11_payer.cls yX11_payer yX11_payer ∈ jg_ws := (jg_m5 132 rfl rfl)
set_option maxRecDepth 20000 in
theorem wc_X6_addPayer : Cond.code mX6_addPayer.1 mX6_addPayer.2.1 mX6_addPayer.2.2.1 mX6_addPayer.2.2.2 ∈ jg_ws := (jg_m5 137 rfl rfl)
set_option maxRecDepth 20000 in
theorem wn_X6_addPayer : Cond.instanceMethod yX6_addPayer ∈ jg_ws := (jg_m5 135 rfl rfl)
set_option maxRecDepth 20000 in
theorem we_X6_addPayer : Cond.selects yX6_addPayer.cls yX6_addPayer yX6_addPayer ∈ jg_ws := (jg_m5 136 rfl rfl)
set_option maxRecDepth 20000 in
theorem wc_X11_ship : Cond.code mX11_ship.1 mX11_ship.2.1 mX11_ship.2.2.1 mX11_ship.2.2.2 ∈ jg_ws := (jg_m5 144 rfl rfl)
set_option maxRecDepth 20000 in
theorem wn_X11_ship : Cond.instanceMethod yX11_ship ∈ jg_ws := (jg_m5 142 rfl rfl)
set_option maxRecDepth 20000 in
theorem we_X11_ship : Cond.selects yX11_ship.cls yX11_ship yX11_ship ∈ jg_ws := (jg_m5 143 rfl rfl)
set_option maxRecDepth 20000 in
theorem wc_X9_come : Cond.code mX9_come.1 mX9_come.2.1 mX9_come.2.2.1 mX9_come.2.2.2 ∈ jg_ws := (jg_m5 150 rfl rfl)
set_option maxRecDepth 20000 in
theorem wn_X9_come : Cond.instanceMethod yX9_come ∈ jg_ws := (jg_m5 148 rfl rfl)
set_option maxRecDepth 20000 in
theorem we_X9_come : Cond.selects yX9_come.cls yX9_come yX9_come ∈ jg_ws := (jg_m5 149 rfl rfl)
set_option maxRecDepth 20000 in
theorem wc_X11_hours : Cond.code mX11_hours.1 mX11_hours.2.1 mX11_hours.2.2.1 mX11_hours.2.2.2 ∈ jg_ws := (jg_m5 157 rfl rfl)
set_option maxRecDepth 20000 in
theorem wn_X11_hours : Cond.instanceMethod yX11_hours ∈ jg_ws := (jg_m5 155 rfl rfl)
set_option maxRecDepth 20000 in
theorem we_X11_hours : Cond.selects yX11_hours.cls yX11_hours yX11_hours ∈ jg_ws := (jg_m5 156 rfl rfl)
set_option maxRecDepth 20000 in
theorem wc_X2_passHour : Cond.code mX2_passHour.1 mX2_passHour.2.1 mX2_passHour.2.2.1 mX2_passHour.2.2.2 ∈ jg_ws := (jg_m5 161 rfl rfl)
set_option maxRecDepth 20000 in
theorem wn_X2_passHour : Cond.instanceMethod yX2_passHour ∈ jg_ws := (jg_m5 159 rfl rfl)
set_option maxRecDepth 20000 in
theorem we_X2_passHour : Cond.selects yX2_passHour.cls yX2_passHour yX2_passHour ∈ jg_ws := (jg_m5 160 rfl rfl)
set_option maxRecDepth 20000 in
theorem wc_X5_nextHourOfPilots : Cond.code mX5_nextHourOfPilots.1 mX5_nextHourOfPilots.2.1 mX5_nextHourOfPilots.2.2.1 mX5_nextHourOfPilots.2.2.2 ∈ jg_ws := (jg_m5 165 rfl rfl)
set_option maxRecDepth 20000 in
theorem wn_X5_nextHourOfPilots : Cond.instanceMethod yX5_nextHourOfPilots ∈ jg_ws := (jg_m5 163 rfl rfl)
set_option maxRecDepth 20000 in
theorem we_X5_nextHourOfPilots : Cond.selects yX5_nextHourOfPilots.cls yX5_nextHourOfPilots yX5_nextHourOfPilots ∈ jg_ws := (jg_m5 164 rfl rfl)
set_option maxRecDepth 20000 in
theorem wc_X5_arrive : Cond.code mX5_arrive.1 mX5_arrive.2.1 mX5_arrive.2.2.1 mX5_arrive.2.2.2 ∈ jg_ws := (jg_m5 169 rfl rfl)
set_option maxRecDepth 20000 in
theorem wn_X5_arrive : Cond.instanceMethod yX5_arrive ∈ jg_ws := (jg_m5 167 rfl rfl)
set_option maxRecDepth 20000 in
theorem we_X5_arrive : Cond.selects yX5_arrive.cls yX5_arrive yX5_arrive ∈ jg_ws := (jg_m5 168 rfl rfl)
set_option maxRecDepth 20000 in
theorem wc_X5_holderOf : Cond.code mX5_holderOf.1 mX5_holderOf.2.1 mX5_holderOf.2.2.1 mX5_holderOf.2.2.2 ∈ jg_ws := (jg_m5 173 rfl rfl)
set_option maxRecDepth 20000 in
theorem wn_X5_holderOf : Cond.instanceMethod yX5_holderOf ∈ jg_ws := (jg_m5 172 rfl rfl)
theorem we_X5_holderOf : Cond.selects yX5_holderOf.cls yX5_holderOf yX5_holderOf ∈ jg_ws := (jg_memP 8 (by decide +kernel) rfl)
set_option maxRecDepth 20000 in
theorem wc_X5_hasInState : Cond.code mX5_hasInState.1 mX5_hasInState.2.1 mX5_hasInState.2.2.1 mX5_hasInState.2.2.2 ∈ jg_ws := (jg_m5 177 rfl rfl)
set_option maxRecDepth 20000 in
theorem wn_X5_hasInState : Cond.instanceMethod yX5_hasInState ∈ jg_ws := (jg_m5 175 rfl rfl)
set_option maxRecDepth 20000 in
theorem we_X5_hasInState : Cond.selects yX5_hasInState.cls yX5_hasInState yX5_hasInState ∈ jg_ws := (jg_m5 176 rfl rfl)
set_option maxRecDepth 20000 in
theorem wc_X2_shipsLeave : Cond.code mX2_shipsLeave.1 mX2_shipsLeave.2.1 mX2_shipsLeave.2.2.1 mX2_shipsLeave.2.2.2 ∈ jg_ws := (jg_m5 181 rfl rfl)
set_option maxRecDepth 20000 in
theorem wn_X2_shipsLeave : Cond.instanceMethod yX2_shipsLeave ∈ jg_ws := (jg_m5 180 rfl rfl)
theorem we_X2_shipsLeave : Cond.selects yX2_shipsLeave.cls yX2_shipsLeave yX2_shipsLeave ∈ jg_ws := (jg_memP 9 (by decide +kernel) rfl)
set_option maxRecDepth 20000 in
theorem wc_X5_cellOf : Cond.code mX5_cellOf.1 mX5_cellOf.2.1 mX5_cellOf.2.2.1 mX5_cellOf.2.2.2 ∈ jg_ws := (jg_m5 186 rfl rfl)
set_option maxRecDepth 20000 in
theorem wn_X5_cellOf : Cond.instanceMethod yX5_cellOf ∈ jg_ws := (jg_m5 184 rfl rfl)
set_option maxRecDepth 20000 in
theorem we_X5_cellOf : Cond.selects yX5_cellOf.cls yX5_cellOf yX5_cellOf ∈ jg_ws := (jg_m5 185 rfl rfl)
set_option maxRecDepth 20000 in
theorem wc_X8_bears : Cond.code mX8_bears.1 mX8_bears.2.1 mX8_bears.2.2.1 mX8_bears.2.2.2 ∈ jg_ws := (jg_m5 190 rfl rfl)
set_option maxRecDepth 20000 in
theorem wn_X8_bears : Cond.instanceMethod yX8_bears ∈ jg_ws := (jg_m5 188 rfl rfl)
set_option maxRecDepth 20000 in
theorem we_X8_bears : Cond.selects yX8_bears.cls yX8_bears yX8_bears ∈ jg_ws := (jg_m5 189 rfl rfl)
set_option maxRecDepth 20000 in
theorem wc_X2_leave : Cond.code mX2_leave.1 mX2_leave.2.1 mX2_leave.2.2.1 mX2_leave.2.2.2 ∈ jg_ws := (jg_m5 194 rfl rfl)
set_option maxRecDepth 20000 in
theorem wn_X2_leave : Cond.instanceMethod yX2_leave ∈ jg_ws := (jg_m5 193 rfl rfl)
theorem we_X2_leave : Cond.selects yX2_leave.cls yX2_leave yX2_leave ∈ jg_ws := (jg_memP 10 (by decide +kernel) rfl)
set_option maxRecDepth 20000 in
theorem wc_X2_stayOf : Cond.code mX2_stayOf.1 mX2_stayOf.2.1 mX2_stayOf.2.2.1 mX2_stayOf.2.2.2 ∈ jg_ws := (jg_m5 198 rfl rfl)
set_option maxRecDepth 20000 in
theorem wn_X2_stayOf : Cond.instanceMethod yX2_stayOf ∈ jg_ws := (jg_m5 196 rfl rfl)
set_option maxRecDepth 20000 in
theorem we_X2_stayOf : Cond.selects yX2_stayOf.cls yX2_stayOf yX2_stayOf ∈ jg_ws := (jg_m5 197 rfl rfl)
set_option maxRecDepth 20000 in
theorem wc_X2_dueBy : Cond.code mX2_dueBy.1 mX2_dueBy.2.1 mX2_dueBy.2.2.1 mX2_dueBy.2.2.2 ∈ jg_ws := (jg_m5 202 rfl rfl)
set_option maxRecDepth 20000 in
theorem wn_X2_dueBy : Cond.instanceMethod yX2_dueBy ∈ jg_ws := (jg_m5 200 rfl rfl)
set_option maxRecDepth 20000 in
theorem we_X2_dueBy : Cond.selects yX2_dueBy.cls yX2_dueBy yX2_dueBy ∈ jg_ws := (jg_m5 201 rfl rfl)
set_option maxRecDepth 20000 in
theorem wc_X2_askOfShip : Cond.code mX2_askOfShip.1 mX2_askOfShip.2.1 mX2_askOfShip.2.2.1 mX2_askOfShip.2.2.2 ∈ jg_ws := (jg_m5 206 rfl rfl)
set_option maxRecDepth 20000 in
theorem wn_X2_askOfShip : Cond.instanceMethod yX2_askOfShip ∈ jg_ws := (jg_m5 204 rfl rfl)
set_option maxRecDepth 20000 in
theorem we_X2_askOfShip : Cond.selects yX2_askOfShip.cls yX2_askOfShip yX2_askOfShip ∈ jg_ws := (jg_m5 205 rfl rfl)
set_option maxRecDepth 20000 in
theorem wc_X0_sum : Cond.code mX0_sum.1 mX0_sum.2.1 mX0_sum.2.2.1 mX0_sum.2.2.2 ∈ jg_ws := (jg_m5 210 rfl rfl)
set_option maxRecDepth 20000 in
theorem wn_X0_sum : Cond.instanceMethod yX0_sum ∈ jg_ws := (jg_m5 208 rfl rfl)
set_option maxRecDepth 20000 in
theorem we_X0_sum : Cond.selects yX0_sum.cls yX0_sum yX0_sum ∈ jg_ws := (jg_m5 209 rfl rfl)
set_option maxRecDepth 20000 in
theorem wc_X0_holds : Cond.code mX0_holds.1 mX0_holds.2.1 mX0_holds.2.2.1 mX0_holds.2.2.2 ∈ jg_ws := (jg_m5 214 rfl rfl)
set_option maxRecDepth 20000 in
theorem wn_X0_holds : Cond.instanceMethod yX0_holds ∈ jg_ws := (jg_m5 213 rfl rfl)
theorem we_X0_holds : Cond.selects yX0_holds.cls yX0_holds yX0_holds ∈ jg_ws := (jg_memP 11 (by decide +kernel) rfl)
set_option maxRecDepth 20000 in
theorem wc_X11_capped : Cond.code mX11_capped.1 mX11_capped.2.1 mX11_capped.2.2.1 mX11_capped.2.2.2 ∈ jg_ws := (jg_m5 217 rfl rfl)
set_option maxRecDepth 20000 in
theorem wt_X11_capped : Cond.static yX11_capped ∈ jg_ws := (jg_m5 216 rfl rfl)
set_option maxRecDepth 20000 in
theorem wc_J9_min_f86c9 : Cond.code mJ9_min_f86c9.1 mJ9_min_f86c9.2.1 mJ9_min_f86c9.2.2.1 mJ9_min_f86c9.2.2.2 ∈ jg_ws := (jg_m5 221 rfl rfl)
set_option maxRecDepth 20000 in
theorem wt_J9_min_f86c9 : Cond.static yJ9_min_f86c9 ∈ jg_ws := (jg_m5 220 rfl rfl)
set_option maxRecDepth 20000 in
theorem wc_X5_freeBerth : Cond.code mX5_freeBerth.1 mX5_freeBerth.2.1 mX5_freeBerth.2.2.1 mX5_freeBerth.2.2.2 ∈ jg_ws := (jg_m5 225 rfl rfl)
set_option maxRecDepth 20000 in
theorem wn_X5_freeBerth : Cond.instanceMethod yX5_freeBerth ∈ jg_ws := (jg_m5 223 rfl rfl)
set_option maxRecDepth 20000 in
theorem we_X5_freeBerth : Cond.selects yX5_freeBerth.cls yX5_freeBerth yX5_freeBerth ∈ jg_ws := (jg_m5 224 rfl rfl)
set_option maxRecDepth 20000 in
theorem wc_X5_takePilot : Cond.code mX5_takePilot.1 mX5_takePilot.2.1 mX5_takePilot.2.2.1 mX5_takePilot.2.2.2 ∈ jg_ws := (jg_m5 229 rfl rfl)
set_option maxRecDepth 20000 in
theorem wn_X5_takePilot : Cond.instanceMethod yX5_takePilot ∈ jg_ws := (jg_m5 227 rfl rfl)
set_option maxRecDepth 20000 in
theorem we_X5_takePilot : Cond.selects yX5_takePilot.cls yX5_takePilot yX5_takePilot ∈ jg_ws := (jg_m5 228 rfl rfl)
set_option maxRecDepth 20000 in
theorem wc_X6_takeDue : Cond.code mX6_takeDue.1 mX6_takeDue.2.1 mX6_takeDue.2.2.1 mX6_takeDue.2.2.2 ∈ jg_ws := (jg_m5 233 rfl rfl)
set_option maxRecDepth 20000 in
theorem wn_X6_takeDue : Cond.instanceMethod yX6_takeDue ∈ jg_ws := (jg_m5 231 rfl rfl)
set_option maxRecDepth 20000 in
theorem we_X6_takeDue : Cond.selects yX6_takeDue.cls yX6_takeDue yX6_takeDue ∈ jg_ws := (jg_m5 232 rfl rfl)
set_option maxRecDepth 20000 in
theorem wc_X2_shipsComeIn : Cond.code mX2_shipsComeIn.1 mX2_shipsComeIn.2.1 mX2_shipsComeIn.2.2.1 mX2_shipsComeIn.2.2.2 ∈ jg_ws := (jg_m5 238 rfl rfl)
set_option maxRecDepth 20000 in
theorem wn_X2_shipsComeIn : Cond.instanceMethod yX2_shipsComeIn ∈ jg_ws := (jg_m5 237 rfl rfl)
theorem we_X2_shipsComeIn : Cond.selects yX2_shipsComeIn.cls yX2_shipsComeIn yX2_shipsComeIn ∈ jg_ws := (jg_memP 12 (by decide +kernel) rfl)
set_option maxRecDepth 20000 in
theorem wc_X2_deepestWayIn : Cond.code mX2_deepestWayIn.1 mX2_deepestWayIn.2.1 mX2_deepestWayIn.2.2.1 mX2_deepestWayIn.2.2.2 ∈ jg_ws := (jg_m6 2 rfl rfl)
set_option maxRecDepth 20000 in
theorem wn_X2_deepestWayIn : Cond.instanceMethod yX2_deepestWayIn ∈ jg_ws := (jg_m6 1 rfl rfl)
theorem we_X2_deepestWayIn : Cond.selects yX2_deepestWayIn.cls yX2_deepestWayIn yX2_deepestWayIn ∈ jg_ws := (jg_memP 13 (by decide +kernel) rfl)
set_option maxRecDepth 20000 in
theorem wc_X2_firstThatCanComeIn : Cond.code mX2_firstThatCanComeIn.1 mX2_firstThatCanComeIn.2.1 mX2_firstThatCanComeIn.2.2.1 mX2_firstThatCanComeIn.2.2.2 ∈ jg_ws := (jg_m6 7 rfl rfl)
set_option maxRecDepth 20000 in
theorem wn_X2_firstThatCanComeIn : Cond.instanceMethod yX2_firstThatCanComeIn ∈ jg_ws := (jg_m6 6 rfl rfl)
theorem we_X2_firstThatCanComeIn : Cond.selects yX2_firstThatCanComeIn.cls yX2_firstThatCanComeIn yX2_firstThatCanComeIn ∈ jg_ws := (jg_memP 14 (by decide +kernel) rfl)
set_option maxRecDepth 20000 in
theorem wc_X5_firstBerthFor : Cond.code mX5_firstBerthFor.1 mX5_firstBerthFor.2.1 mX5_firstBerthFor.2.2.1 mX5_firstBerthFor.2.2.2 ∈ jg_ws := (jg_m6 12 rfl rfl)
set_option maxRecDepth 20000 in
theorem wn_X5_firstBerthFor : Cond.instanceMethod yX5_firstBerthFor ∈ jg_ws := (jg_m6 10 rfl rfl)
set_option maxRecDepth 20000 in
theorem we_X5_firstBerthFor : Cond.selects yX5_firstBerthFor.cls yX5_firstBerthFor yX5_firstBerthFor ∈ jg_ws := (jg_m6 11 rfl rfl)
set_option maxRecDepth 20000 in
theorem wc_X2_comeIn : Cond.code mX2_comeIn.1 mX2_comeIn.2.1 mX2_comeIn.2.2.1 mX2_comeIn.2.2.2 ∈ jg_ws := (jg_m6 16 rfl rfl)
set_option maxRecDepth 20000 in
theorem wn_X2_comeIn : Cond.instanceMethod yX2_comeIn ∈ jg_ws := (jg_m6 15 rfl rfl)
theorem we_X2_comeIn : Cond.selects yX2_comeIn.cls yX2_comeIn yX2_comeIn ∈ jg_ws := (jg_memP 15 (by decide +kernel) rfl)
set_option maxRecDepth 20000 in
theorem wc_X1_take : Cond.code mX1_take.1 mX1_take.2.1 mX1_take.2.2.1 mX1_take.2.2.2 ∈ jg_ws := (jg_m6 20 rfl rfl)
set_option maxRecDepth 20000 in
theorem wn_X1_take : Cond.instanceMethod yX1_take ∈ jg_ws := (jg_m6 18 rfl rfl)
set_option maxRecDepth 20000 in
theorem we_X1_take : Cond.selects yX1_take.cls yX1_take yX1_take ∈ jg_ws := (jg_m6 19 rfl rfl)
set_option maxRecDepth 20000 in
theorem wc_X5_unload : Cond.code mX5_unload.1 mX5_unload.2.1 mX5_unload.2.2.1 mX5_unload.2.2.2 ∈ jg_ws := (jg_m6 24 rfl rfl)
set_option maxRecDepth 20000 in
theorem wn_X5_unload : Cond.instanceMethod yX5_unload ∈ jg_ws := (jg_m6 22 rfl rfl)
set_option maxRecDepth 20000 in
theorem we_X5_unload : Cond.selects yX5_unload.cls yX5_unload yX5_unload ∈ jg_ws := (jg_m6 23 rfl rfl)
set_option maxRecDepth 20000 in
theorem wc_X5_cart : Cond.code mX5_cart.1 mX5_cart.2.1 mX5_cart.2.2.1 mX5_cart.2.2.2 ∈ jg_ws := (jg_m6 29 rfl rfl)
set_option maxRecDepth 20000 in
theorem wn_X5_cart : Cond.instanceMethod yX5_cart ∈ jg_ws := (jg_m6 27 rfl rfl)
set_option maxRecDepth 20000 in
theorem we_X5_cart : Cond.selects yX5_cart.cls yX5_cart yX5_cart ∈ jg_ws := (jg_m6 28 rfl rfl)
set_option maxRecDepth 20000 in
theorem wc_X5_fullestBerth : Cond.code mX5_fullestBerth.1 mX5_fullestBerth.2.1 mX5_fullestBerth.2.2.1 mX5_fullestBerth.2.2.2 ∈ jg_ws := (jg_m6 33 rfl rfl)
set_option maxRecDepth 20000 in
theorem wn_X5_fullestBerth : Cond.instanceMethod yX5_fullestBerth ∈ jg_ws := (jg_m6 32 rfl rfl)
theorem we_X5_fullestBerth : Cond.selects yX5_fullestBerth.cls yX5_fullestBerth yX5_fullestBerth ∈ jg_ws := (jg_memP 16 (by decide +kernel) rfl)
set_option maxRecDepth 20000 in
theorem wc_X5_weigh : Cond.code mX5_weigh.1 mX5_weigh.2.1 mX5_weigh.2.2.1 mX5_weigh.2.2.2 ∈ jg_ws := (jg_m6 37 rfl rfl)
set_option maxRecDepth 20000 in
theorem wn_X5_weigh : Cond.instanceMethod yX5_weigh ∈ jg_ws := (jg_m6 35 rfl rfl)
set_option maxRecDepth 20000 in
theorem we_X5_weigh : Cond.selects yX5_weigh.cls yX5_weigh yX5_weigh ∈ jg_ws := (jg_m6 36 rfl rfl)
set_option maxRecDepth 20000 in
theorem wc_X8_endDay : Cond.code mX8_endDay.1 mX8_endDay.2.1 mX8_endDay.2.2.1 mX8_endDay.2.2.2 ∈ jg_ws := (jg_m6 41 rfl rfl)
set_option maxRecDepth 20000 in
theorem wn_X8_endDay : Cond.instanceMethod yX8_endDay ∈ jg_ws := (jg_m6 39 rfl rfl)
set_option maxRecDepth 20000 in
theorem we_X8_endDay : Cond.selects yX8_endDay.cls yX8_endDay yX8_endDay ∈ jg_ws := (jg_m6 40 rfl rfl)
set_option maxRecDepth 20000 in
theorem wc_X8_runOf : Cond.code mX8_runOf.1 mX8_runOf.2.1 mX8_runOf.2.2.1 mX8_runOf.2.2.2 ∈ jg_ws := (jg_m6 45 rfl rfl)
set_option maxRecDepth 20000 in
theorem wn_X8_runOf : Cond.instanceMethod yX8_runOf ∈ jg_ws := (jg_m6 44 rfl rfl)
theorem we_X8_runOf : Cond.selects yX8_runOf.cls yX8_runOf yX8_runOf ∈ jg_ws := (jg_memP 17 (by decide +kernel) rfl)
set_option maxRecDepth 20000 in
theorem wc_X8_silt : Cond.code mX8_silt.1 mX8_silt.2.1 mX8_silt.2.2.1 mX8_silt.2.2.2 ∈ jg_ws := (jg_m6 49 rfl rfl)
set_option maxRecDepth 20000 in
theorem wn_X8_silt : Cond.instanceMethod yX8_silt ∈ jg_ws := (jg_m6 48 rfl rfl)
theorem we_X8_silt : Cond.selects yX8_silt.cls yX8_silt yX8_silt ∈ jg_ws := (jg_memP 18 (by decide +kernel) rfl)
set_option maxRecDepth 20000 in
theorem wc_X8_dig : Cond.code mX8_dig.1 mX8_dig.2.1 mX8_dig.2.2.1 mX8_dig.2.2.2 ∈ jg_ws := (jg_m6 54 rfl rfl)
set_option maxRecDepth 20000 in
theorem wn_X8_dig : Cond.instanceMethod yX8_dig ∈ jg_ws := (jg_m6 53 rfl rfl)
theorem we_X8_dig : Cond.selects yX8_dig.cls yX8_dig yX8_dig ∈ jg_ws := (jg_memP 19 (by decide +kernel) rfl)
set_option maxRecDepth 20000 in
theorem wc_X6_endYear : Cond.code mX6_endYear.1 mX6_endYear.2.1 mX6_endYear.2.2.1 mX6_endYear.2.2.2 ∈ jg_ws := (jg_m6 58 rfl rfl)
set_option maxRecDepth 20000 in
theorem wn_X6_endYear : Cond.instanceMethod yX6_endYear ∈ jg_ws := (jg_m6 56 rfl rfl)
set_option maxRecDepth 20000 in
theorem we_X6_endYear : Cond.selects yX6_endYear.cls yX6_endYear yX6_endYear ∈ jg_ws := (jg_m6 57 rfl rfl)
set_option maxRecDepth 20000 in
theorem wc_X6_payRank : Cond.code mX6_payRank.1 mX6_payRank.2.1 mX6_payRank.2.2.1 mX6_payRank.2.2.2 ∈ jg_ws := (jg_m6 62 rfl rfl)
set_option maxRecDepth 20000 in
theorem wn_X6_payRank : Cond.instanceMethod yX6_payRank ∈ jg_ws := (jg_m6 61 rfl rfl)
theorem we_X6_payRank : Cond.selects yX6_payRank.cls yX6_payRank yX6_payRank ∈ jg_ws := (jg_memP 20 (by decide +kernel) rfl)
set_option maxRecDepth 20000 in
theorem wc_X11_led : Cond.code mX11_led.1 mX11_led.2.1 mX11_led.2.2.1 mX11_led.2.2.2 ∈ jg_ws := (jg_m6 70 rfl rfl)
set_option maxRecDepth 20000 in
theorem wn_X11_led : Cond.instanceMethod yX11_led ∈ jg_ws := (jg_m6 68 rfl rfl)
set_option maxRecDepth 20000 in
theorem we_X11_led : Cond.selects yX11_led.cls yX11_led yX11_led ∈ jg_ws := (jg_m6 69 rfl rfl)
set_option maxRecDepth 20000 in
theorem wc_X2_countAheadOf : Cond.code mX2_countAheadOf.1 mX2_countAheadOf.2.1 mX2_countAheadOf.2.2.1 mX2_countAheadOf.2.2.2 ∈ jg_ws := (jg_m6 76 rfl rfl)
set_option maxRecDepth 20000 in
theorem wn_X2_countAheadOf : Cond.instanceMethod yX2_countAheadOf ∈ jg_ws := (jg_m6 74 rfl rfl)
set_option maxRecDepth 20000 in
theorem we_X2_countAheadOf : Cond.selects yX2_countAheadOf.cls yX2_countAheadOf yX2_countAheadOf ∈ jg_ws := (jg_m6 75 rfl rfl)
set_option maxRecDepth 20000 in
theorem wc_X11_quay : Cond.code mX11_quay.1 mX11_quay.2.1 mX11_quay.2.2.1 mX11_quay.2.2.2 ∈ jg_ws := (jg_m6 84 rfl rfl)
set_option maxRecDepth 20000 in
theorem wn_X11_quay : Cond.instanceMethod yX11_quay ∈ jg_ws := (jg_m6 82 rfl rfl)
set_option maxRecDepth 20000 in
theorem we_X11_quay : Cond.selects yX11_quay.cls yX11_quay yX11_quay ∈ jg_ws := (jg_m6 83 rfl rfl)
set_option maxRecDepth 20000 in
theorem wc_X11_window : Cond.code mX11_window.1 mX11_window.2.1 mX11_window.2.2.1 mX11_window.2.2.2 ∈ jg_ws := (jg_m6 93 rfl rfl)
set_option maxRecDepth 20000 in
theorem wn_X11_window : Cond.instanceMethod yX11_window ∈ jg_ws := (jg_m6 91 rfl rfl)
set_option maxRecDepth 20000 in
theorem we_X11_window : Cond.selects yX11_window.cls yX11_window yX11_window ∈ jg_ws := (jg_m6 92 rfl rfl)
set_option maxRecDepth 20000 in
theorem wc_X2_firstSafeHour : Cond.code mX2_firstSafeHour.1 mX2_firstSafeHour.2.1 mX2_firstSafeHour.2.2.1 mX2_firstSafeHour.2.2.2 ∈ jg_ws := (jg_m6 97 rfl rfl)
set_option maxRecDepth 20000 in
theorem wn_X2_firstSafeHour : Cond.instanceMethod yX2_firstSafeHour ∈ jg_ws := (jg_m6 95 rfl rfl)
set_option maxRecDepth 20000 in
theorem we_X2_firstSafeHour : Cond.selects yX2_firstSafeHour.cls yX2_firstSafeHour yX2_firstSafeHour ∈ jg_ws := (jg_m6 96 rfl rfl)
set_option maxRecDepth 20000 in
theorem wc_X11_act : Cond.code mX11_act.1 mX11_act.2.1 mX11_act.2.2.1 mX11_act.2.2.2 ∈ jg_ws := (jg_m6 104 rfl rfl)
set_option maxRecDepth 20000 in
theorem wn_X11_act : Cond.instanceMethod yX11_act ∈ jg_ws := (jg_m6 102 rfl rfl)
set_option maxRecDepth 20000 in
theorem we_X11_act : Cond.selects yX11_act.cls yX11_act yX11_act ∈ jg_ws := (jg_m6 103 rfl rfl)
set_option maxRecDepth 20000 in
theorem wc_X11_useTape : Cond.code mX11_useTape.1 mX11_useTape.2.1 mX11_useTape.2.2.1 mX11_useTape.2.2.2 ∈ jg_ws := (jg_m6 108 rfl rfl)
set_option maxRecDepth 20000 in
theorem wn_X11_useTape : Cond.instanceMethod yX11_useTape ∈ jg_ws := (jg_m6 107 rfl rfl)
theorem we_X11_useTape : Cond.selects yX11_useTape.cls yX11_useTape yX11_useTape ∈ jg_ws := (jg_memP 21 (by decide +kernel) rfl)
set_option maxRecDepth 20000 in
theorem wc_X7_read : Cond.code mX7_read.1 mX7_read.2.1 mX7_read.2.2.1 mX7_read.2.2.2 ∈ jg_ws := (jg_m6 112 rfl rfl)
set_option maxRecDepth 20000 in
theorem wn_X7_read : Cond.instanceMethod yX7_read ∈ jg_ws := (jg_m6 110 rfl rfl)
set_option maxRecDepth 20000 in
theorem we_X7_read : Cond.selects yX7_read.cls yX7_read yX7_read ∈ jg_ws := (jg_m6 111 rfl rfl)
set_option maxRecDepth 20000 in
theorem wc_X7_findThings : Cond.code mX7_findThings.1 mX7_findThings.2.1 mX7_findThings.2.2.1 mX7_findThings.2.2.2 ∈ jg_ws := (jg_m6 117 rfl rfl)
set_option maxRecDepth 20000 in
theorem wn_X7_findThings : Cond.instanceMethod yX7_findThings ∈ jg_ws := (jg_m6 116 rfl rfl)
theorem we_X7_findThings : Cond.selects yX7_findThings.cls yX7_findThings yX7_findThings ∈ jg_ws := (jg_memP 22 (by decide +kernel) rfl)
set_option maxRecDepth 20000 in
theorem wc_X7_goesOn : Cond.code mX7_goesOn.1 mX7_goesOn.2.1 mX7_goesOn.2.2.1 mX7_goesOn.2.2.2 ∈ jg_ws := (jg_m6 120 rfl rfl)
set_option maxRecDepth 20000 in
theorem wt_X7_goesOn : Cond.static yX7_goesOn ∈ jg_ws := (jg_m6 119 rfl rfl)
set_option maxRecDepth 20000 in
theorem wc_X7_isLetter : Cond.code mX7_isLetter.1 mX7_isLetter.2.1 mX7_isLetter.2.2.1 mX7_isLetter.2.2.2 ∈ jg_ws := (jg_m6 123 rfl rfl)
set_option maxRecDepth 20000 in
theorem wt_X7_isLetter : Cond.static yX7_isLetter ∈ jg_ws := (jg_m6 122 rfl rfl)
set_option maxRecDepth 20000 in
theorem wc_X7_isDigit : Cond.code mX7_isDigit.1 mX7_isDigit.2.1 mX7_isDigit.2.2.1 mX7_isDigit.2.2.2 ∈ jg_ws := (jg_m6 126 rfl rfl)
set_option maxRecDepth 20000 in
theorem wt_X7_isDigit : Cond.static yX7_isDigit ∈ jg_ws := (jg_m6 125 rfl rfl)
set_option maxRecDepth 20000 in
theorem wc_X7_thingOf : Cond.code mX7_thingOf.1 mX7_thingOf.2.1 mX7_thingOf.2.2.1 mX7_thingOf.2.2.2 ∈ jg_ws := (jg_m6 129 rfl rfl)
set_option maxRecDepth 20000 in
theorem wt_X7_thingOf : Cond.static yX7_thingOf ∈ jg_ws := (jg_m6 128 rfl rfl)
set_option maxRecDepth 20000 in
theorem wc_X7_wordOf : Cond.code mX7_wordOf.1 mX7_wordOf.2.1 mX7_wordOf.2.2.1 mX7_wordOf.2.2.2 ∈ jg_ws := (jg_m6 132 rfl rfl)
set_option maxRecDepth 20000 in
theorem wt_X7_wordOf : Cond.static yX7_wordOf ∈ jg_ws := (jg_m6 131 rfl rfl)
set_option maxRecDepth 20000 in
theorem wc_X7_placeOf : Cond.code mX7_placeOf.1 mX7_placeOf.2.1 mX7_placeOf.2.2.1 mX7_placeOf.2.2.2 ∈ jg_ws := (jg_m6 136 rfl rfl)
set_option maxRecDepth 20000 in
theorem wt_X7_placeOf : Cond.static yX7_placeOf ∈ jg_ws := (jg_m6 135 rfl rfl)
set_option maxRecDepth 20000 in
theorem wc_J0_length_8abf5 : Cond.code mJ0_length_8abf5.1 mJ0_length_8abf5.2.1 mJ0_length_8abf5.2.2.1 mJ0_length_8abf5.2.2.2 ∈ jg_ws := (jg_m6 140 rfl rfl)
set_option maxRecDepth 20000 in
theorem wn_J0_length_8abf5 : Cond.instanceMethod yJ0_length_8abf5 ∈ jg_ws := (jg_m6 138 rfl rfl)
set_option maxRecDepth 20000 in
theorem we_J0_length_8abf5 : Cond.selects yJ0_length_8abf5.cls yJ0_length_8abf5 yJ0_length_8abf5 ∈ jg_ws := (jg_m6 139 rfl rfl)
set_option maxRecDepth 20000 in
theorem wc_J0_coder_7d493 : Cond.code mJ0_coder_7d493.1 mJ0_coder_7d493.2.1 mJ0_coder_7d493.2.2.1 mJ0_coder_7d493.2.2.2 ∈ jg_ws := (jg_m6 144 rfl rfl)
set_option maxRecDepth 20000 in
theorem wn_J0_coder_7d493 : Cond.instanceMethod yJ0_coder_7d493 ∈ jg_ws := (jg_m6 142 rfl rfl)
set_option maxRecDepth 20000 in
theorem we_J0_coder_7d493 : Cond.selects yJ0_coder_7d493.cls yJ0_coder_7d493 yJ0_coder_7d493 ∈ jg_ws := (jg_m6 143 rfl rfl)
set_option maxRecDepth 20000 in
theorem wc_J0_charAt_5068e : Cond.code mJ0_charAt_5068e.1 mJ0_charAt_5068e.2.1 mJ0_charAt_5068e.2.2.1 mJ0_charAt_5068e.2.2.2 ∈ jg_ws := (jg_m6 150 rfl rfl)
set_option maxRecDepth 20000 in
theorem wn_J0_charAt_5068e : Cond.instanceMethod yJ0_charAt_5068e ∈ jg_ws := (jg_m6 148 rfl rfl)
set_option maxRecDepth 20000 in
theorem we_J0_charAt_5068e : Cond.selects yJ0_charAt_5068e.cls yJ0_charAt_5068e yJ0_charAt_5068e ∈ jg_ws := (jg_m6 149 rfl rfl)
set_option maxRecDepth 20000 in
theorem wc_J0_isLatin1_aae02 : Cond.code mJ0_isLatin1_aae02.1 mJ0_isLatin1_aae02.2.1 mJ0_isLatin1_aae02.2.2.1 mJ0_isLatin1_aae02.2.2.2 ∈ jg_ws := (jg_m6 154 rfl rfl)
set_option maxRecDepth 20000 in
theorem wn_J0_isLatin1_aae02 : Cond.instanceMethod yJ0_isLatin1_aae02 ∈ jg_ws := (jg_m6 152 rfl rfl)
set_option maxRecDepth 20000 in
theorem we_J0_isLatin1_aae02 : Cond.selects yJ0_isLatin1_aae02.cls yJ0_isLatin1_aae02 yJ0_isLatin1_aae02 ∈ jg_ws := (jg_m6 153 rfl rfl)
set_option maxRecDepth 20000 in
theorem wc_J1_charAt_3b067 : Cond.code mJ1_charAt_3b067.1 mJ1_charAt_3b067.2.1 mJ1_charAt_3b067.2.2.1 mJ1_charAt_3b067.2.2.2 ∈ jg_ws := (jg_m6 157 rfl rfl)
set_option maxRecDepth 20000 in
theorem wt_J1_charAt_3b067 : Cond.static yJ1_charAt_3b067 ∈ jg_ws := (jg_m6 156 rfl rfl)
set_option maxRecDepth 20000 in
theorem wc_J0_checkIndex_df160 : Cond.code mJ0_checkIndex_df160.1 mJ0_checkIndex_df160.2.1 mJ0_checkIndex_df160.2.2.1 mJ0_checkIndex_df160.2.2.2 ∈ jg_ws := (jg_m6 160 rfl rfl)
set_option maxRecDepth 20000 in
theorem wt_J0_checkIndex_df160 : Cond.static yJ0_checkIndex_df160 ∈ jg_ws := (jg_m6 159 rfl rfl)
set_option maxRecDepth 20000 in
theorem wc_J3_checkIndex_8e157 : Cond.code mJ3_checkIndex_8e157.1 mJ3_checkIndex_8e157.2.1 mJ3_checkIndex_8e157.2.2.1 mJ3_checkIndex_8e157.2.2.2 ∈ jg_ws := (jg_m6 165 rfl rfl)
set_option maxRecDepth 20000 in
theorem wt_J3_checkIndex_8e157 : Cond.static yJ3_checkIndex_8e157 ∈ jg_ws := (jg_m6 164 rfl rfl)
set_option maxRecDepth 20000 in
theorem wc_J2_charAt_3b067 : Cond.code mJ2_charAt_3b067.1 mJ2_charAt_3b067.2.1 mJ2_charAt_3b067.2.2.1 mJ2_charAt_3b067.2.2.2 ∈ jg_ws := (jg_m6 168 rfl rfl)
set_option maxRecDepth 20000 in
theorem wt_J2_charAt_3b067 : Cond.static yJ2_charAt_3b067 ∈ jg_ws := (jg_m6 167 rfl rfl)
set_option maxRecDepth 20000 in
theorem wc_J2_checkIndex_2214a : Cond.code mJ2_checkIndex_2214a.1 mJ2_checkIndex_2214a.2.1 mJ2_checkIndex_2214a.2.2.1 mJ2_checkIndex_2214a.2.2.2 ∈ jg_ws := (jg_m6 171 rfl rfl)
set_option maxRecDepth 20000 in
theorem wt_J2_checkIndex_2214a : Cond.static yJ2_checkIndex_2214a ∈ jg_ws := (jg_m6 170 rfl rfl)
set_option maxRecDepth 20000 in
theorem wc_J2_length_9d52b : Cond.code mJ2_length_9d52b.1 mJ2_length_9d52b.2.1 mJ2_length_9d52b.2.2.1 mJ2_length_9d52b.2.2.2 ∈ jg_ws := (jg_m6 174 rfl rfl)
set_option maxRecDepth 20000 in
theorem wt_J2_length_9d52b : Cond.static yJ2_length_9d52b ∈ jg_ws := (jg_m6 173 rfl rfl)
set_option maxRecDepth 20000 in
theorem wc_J2_getChar_3b067 : Cond.code mJ2_getChar_3b067.1 mJ2_getChar_3b067.2.1 mJ2_getChar_3b067.2.2.1 mJ2_getChar_3b067.2.2.2 ∈ jg_ws := (jg_m6 178 rfl rfl)
set_option maxRecDepth 20000 in
theorem wt_J2_getChar_3b067 : Cond.static yJ2_getChar_3b067 ∈ jg_ws := (jg_m6 177 rfl rfl)
set_option maxRecDepth 20000 in
theorem wc_X7_numberOf : Cond.code mX7_numberOf.1 mX7_numberOf.2.1 mX7_numberOf.2.2.1 mX7_numberOf.2.2.2 ∈ jg_ws := (jg_m6 189 rfl rfl)
set_option maxRecDepth 20000 in
theorem wt_X7_numberOf : Cond.static yX7_numberOf ∈ jg_ws := (jg_m6 188 rfl rfl)
set_option maxRecDepth 20000 in
theorem wc_X7_addThing : Cond.code mX7_addThing.1 mX7_addThing.2.1 mX7_addThing.2.2.1 mX7_addThing.2.2.2 ∈ jg_ws := (jg_m6 193 rfl rfl)
set_option maxRecDepth 20000 in
theorem wn_X7_addThing : Cond.instanceMethod yX7_addThing ∈ jg_ws := (jg_m6 192 rfl rfl)
theorem we_X7_addThing : Cond.selects yX7_addThing.cls yX7_addThing yX7_addThing ∈ jg_ws := (jg_memP 23 (by decide +kernel) rfl)
set_option maxRecDepth 20000 in
theorem wc_X7_thing : Cond.code mX7_thing.1 mX7_thing.2.1 mX7_thing.2.2.1 mX7_thing.2.2.2 ∈ jg_ws := (jg_m6 197 rfl rfl)
set_option maxRecDepth 20000 in
theorem wn_X7_thing : Cond.instanceMethod yX7_thing ∈ jg_ws := (jg_m6 196 rfl rfl)
theorem we_X7_thing : Cond.selects yX7_thing.cls yX7_thing yX7_thing ∈ jg_ws := (jg_memP 24 (by decide +kernel) rfl)
set_option maxRecDepth 20000 in
theorem wc_X7_readLine : Cond.code mX7_readLine.1 mX7_readLine.2.1 mX7_readLine.2.2.1 mX7_readLine.2.2.2 ∈ jg_ws := (jg_m6 201 rfl rfl)
set_option maxRecDepth 20000 in
theorem wn_X7_readLine : Cond.instanceMethod yX7_readLine ∈ jg_ws := (jg_m6 200 rfl rfl)
theorem we_X7_readLine : Cond.selects yX7_readLine.cls yX7_readLine yX7_readLine ∈ jg_ws := (jg_memP 25 (by decide +kernel) rfl)
set_option maxRecDepth 20000 in
theorem wc_X7_keyOf : Cond.code mX7_keyOf.1 mX7_keyOf.2.1 mX7_keyOf.2.2.1 mX7_keyOf.2.2.2 ∈ jg_ws := (jg_m6 204 rfl rfl)
set_option maxRecDepth 20000 in
theorem wt_X7_keyOf : Cond.static yX7_keyOf ∈ jg_ws := (jg_m6 203 rfl rfl)
set_option maxRecDepth 20000 in
theorem wc_X7_mostOf : Cond.code mX7_mostOf.1 mX7_mostOf.2.1 mX7_mostOf.2.2.1 mX7_mostOf.2.2.2 ∈ jg_ws := (jg_m6 207 rfl rfl)
set_option maxRecDepth 20000 in
theorem wt_X7_mostOf : Cond.static yX7_mostOf ∈ jg_ws := (jg_m6 206 rfl rfl)
set_option maxRecDepth 20000 in
theorem wc_X7_readAny : Cond.code mX7_readAny.1 mX7_readAny.2.1 mX7_readAny.2.2.1 mX7_readAny.2.2.2 ∈ jg_ws := (jg_m6 212 rfl rfl)
set_option maxRecDepth 20000 in
theorem wn_X7_readAny : Cond.instanceMethod yX7_readAny ∈ jg_ws := (jg_m6 211 rfl rfl)
theorem we_X7_readAny : Cond.selects yX7_readAny.cls yX7_readAny yX7_readAny ∈ jg_ws := (jg_memP 26 (by decide +kernel) rfl)
set_option maxRecDepth 20000 in
theorem wc_X7_readAll : Cond.code mX7_readAll.1 mX7_readAll.2.1 mX7_readAll.2.2.1 mX7_readAll.2.2.2 ∈ jg_ws := (jg_m6 216 rfl rfl)
set_option maxRecDepth 20000 in
theorem wn_X7_readAll : Cond.instanceMethod yX7_readAll ∈ jg_ws := (jg_m6 215 rfl rfl)
theorem we_X7_readAll : Cond.selects yX7_readAll.cls yX7_readAll yX7_readAll ∈ jg_ws := (jg_memP 27 (by decide +kernel) rfl)
set_option maxRecDepth 20000 in
theorem wc_X7_readAtom : Cond.code mX7_readAtom.1 mX7_readAtom.2.1 mX7_readAtom.2.2.1 mX7_readAtom.2.2.2 ∈ jg_ws := (jg_m6 220 rfl rfl)
set_option maxRecDepth 20000 in
theorem wn_X7_readAtom : Cond.instanceMethod yX7_readAtom ∈ jg_ws := (jg_m6 219 rfl rfl)
theorem we_X7_readAtom : Cond.selects yX7_readAtom.cls yX7_readAtom yX7_readAtom ∈ jg_ws := (jg_memP 28 (by decide +kernel) rfl)
set_option maxRecDepth 20000 in
theorem wc_X7_readClosed : Cond.code mX7_readClosed.1 mX7_readClosed.2.1 mX7_readClosed.2.2.1 mX7_readClosed.2.2.2 ∈ jg_ws := (jg_m6 224 rfl rfl)
set_option maxRecDepth 20000 in
theorem wn_X7_readClosed : Cond.instanceMethod yX7_readClosed ∈ jg_ws := (jg_m6 223 rfl rfl)
theorem we_X7_readClosed : Cond.selects yX7_readClosed.cls yX7_readClosed yX7_readClosed ∈ jg_ws := (jg_memP 29 (by decide +kernel) rfl)
set_option maxRecDepth 20000 in
theorem wc_X7_readDenied : Cond.code mX7_readDenied.1 mX7_readDenied.2.1 mX7_readDenied.2.2.1 mX7_readDenied.2.2.2 ∈ jg_ws := (jg_m6 228 rfl rfl)
set_option maxRecDepth 20000 in
theorem wn_X7_readDenied : Cond.instanceMethod yX7_readDenied ∈ jg_ws := (jg_m6 227 rfl rfl)
theorem we_X7_readDenied : Cond.selects yX7_readDenied.cls yX7_readDenied yX7_readDenied ∈ jg_ws := (jg_memP 30 (by decide +kernel) rfl)
set_option maxRecDepth 20000 in
theorem wc_X7_addStep : Cond.code mX7_addStep.1 mX7_addStep.2.1 mX7_addStep.2.2.1 mX7_addStep.2.2.2 ∈ jg_ws := (jg_m6 232 rfl rfl)
set_option maxRecDepth 20000 in
theorem wn_X7_addStep : Cond.instanceMethod yX7_addStep ∈ jg_ws := (jg_m6 231 rfl rfl)
theorem we_X7_addStep : Cond.selects yX7_addStep.cls yX7_addStep yX7_addStep ∈ jg_ws := (jg_memP 31 (by decide +kernel) rfl)
set_option maxRecDepth 20000 in
theorem wc_X7_readLimit : Cond.code mX7_readLimit.1 mX7_readLimit.2.1 mX7_readLimit.2.2.1 mX7_readLimit.2.2.2 ∈ jg_ws := (jg_m6 236 rfl rfl)
set_option maxRecDepth 20000 in
theorem wn_X7_readLimit : Cond.instanceMethod yX7_readLimit ∈ jg_ws := (jg_m6 235 rfl rfl)
theorem we_X7_readLimit : Cond.selects yX7_readLimit.cls yX7_readLimit yX7_readLimit ∈ jg_ws := (jg_memP 32 (by decide +kernel) rfl)
set_option maxRecDepth 20000 in
theorem wc_J7_copyOf_59c91 : Cond.code mJ7_copyOf_59c91.1 mJ7_copyOf_59c91.2.1 mJ7_copyOf_59c91.2.2.1 mJ7_copyOf_59c91.2.2.2 ∈ jg_ws := (jg_m7 0 rfl rfl)
set_option maxRecDepth 20000 in
theorem wt_J7_copyOf_59c91 : Cond.static yJ7_copyOf_59c91 ∈ jg_ws := (jg_m6 239 rfl rfl)
set_option maxRecDepth 20000 in
theorem wc_X6_everPaid : Cond.code mX6_everPaid.1 mX6_everPaid.2.1 mX6_everPaid.2.2.1 mX6_everPaid.2.2.2 ∈ jg_ws := (jg_m7 15 rfl rfl)
set_option maxRecDepth 20000 in
theorem wn_X6_everPaid : Cond.instanceMethod yX6_everPaid ∈ jg_ws := (jg_m7 13 rfl rfl)
set_option maxRecDepth 20000 in
theorem we_X6_everPaid : Cond.selects yX6_everPaid.cls yX6_everPaid yX6_everPaid ∈ jg_ws := (jg_m7 14 rfl rfl)
set_option maxRecDepth 20000 in
theorem wc_X3_pass : Cond.code mX3_pass.1 mX3_pass.2.1 mX3_pass.2.2.1 mX3_pass.2.2.2 ∈ jg_ws := (jg_m7 19 rfl rfl)
set_option maxRecDepth 20000 in
theorem wn_X3_pass : Cond.instanceMethod yX3_pass ∈ jg_ws := (jg_m7 17 rfl rfl)
set_option maxRecDepth 20000 in
theorem we_X3_pass : Cond.selects yX3_pass.cls yX3_pass yX3_pass ∈ jg_ws := (jg_m7 18 rfl rfl)
set_option maxRecDepth 20000 in
theorem wc_X11_propose : Cond.code mX11_propose.1 mX11_propose.2.1 mX11_propose.2.2.1 mX11_propose.2.2.2 ∈ jg_ws := (jg_m7 26 rfl rfl)
set_option maxRecDepth 20000 in
theorem wn_X11_propose : Cond.instanceMethod yX11_propose ∈ jg_ws := (jg_m7 24 rfl rfl)
set_option maxRecDepth 20000 in
theorem we_X11_propose : Cond.selects yX11_propose.cls yX11_propose yX11_propose ∈ jg_ws := (jg_m7 25 rfl rfl)
set_option maxRecDepth 20000 in
theorem wc_X3_beginVote : Cond.code mX3_beginVote.1 mX3_beginVote.2.1 mX3_beginVote.2.2.1 mX3_beginVote.2.2.2 ∈ jg_ws := (jg_m7 30 rfl rfl)
set_option maxRecDepth 20000 in
theorem wn_X3_beginVote : Cond.instanceMethod yX3_beginVote ∈ jg_ws := (jg_m7 28 rfl rfl)
set_option maxRecDepth 20000 in
theorem we_X3_beginVote : Cond.selects yX3_beginVote.cls yX3_beginVote yX3_beginVote ∈ jg_ws := (jg_m7 29 rfl rfl)
set_option maxRecDepth 20000 in
theorem wc_X11_vote : Cond.code mX11_vote.1 mX11_vote.2.1 mX11_vote.2.2.1 mX11_vote.2.2.2 ∈ jg_ws := (jg_m7 37 rfl rfl)
set_option maxRecDepth 20000 in
theorem wn_X11_vote : Cond.instanceMethod yX11_vote ∈ jg_ws := (jg_m7 35 rfl rfl)
set_option maxRecDepth 20000 in
theorem we_X11_vote : Cond.selects yX11_vote.cls yX11_vote yX11_vote ∈ jg_ws := (jg_m7 36 rfl rfl)
set_option maxRecDepth 20000 in
theorem wc_X2_votesOf : Cond.code mX2_votesOf.1 mX2_votesOf.2.1 mX2_votesOf.2.2.1 mX2_votesOf.2.2.2 ∈ jg_ws := (jg_m7 41 rfl rfl)
set_option maxRecDepth 20000 in
theorem wn_X2_votesOf : Cond.instanceMethod yX2_votesOf ∈ jg_ws := (jg_m7 39 rfl rfl)
set_option maxRecDepth 20000 in
theorem we_X2_votesOf : Cond.selects yX2_votesOf.cls yX2_votesOf yX2_votesOf ∈ jg_ws := (jg_m7 40 rfl rfl)
set_option maxRecDepth 20000 in
theorem wc_X3_say : Cond.code mX3_say.1 mX3_say.2.1 mX3_say.2.2.1 mX3_say.2.2.2 ∈ jg_ws := (jg_m7 46 rfl rfl)
set_option maxRecDepth 20000 in
theorem wn_X3_say : Cond.instanceMethod yX3_say ∈ jg_ws := (jg_m7 44 rfl rfl)
set_option maxRecDepth 20000 in
theorem we_X3_say : Cond.selects yX3_say.cls yX3_say yX3_say ∈ jg_ws := (jg_m7 45 rfl rfl)
set_option maxRecDepth 20000 in
theorem wc_X11_close : Cond.code mX11_close.1 mX11_close.2.1 mX11_close.2.2.1 mX11_close.2.2.2 ∈ jg_ws := (jg_m7 53 rfl rfl)
set_option maxRecDepth 20000 in
theorem wn_X11_close : Cond.instanceMethod yX11_close ∈ jg_ws := (jg_m7 51 rfl rfl)
set_option maxRecDepth 20000 in
theorem we_X11_close : Cond.selects yX11_close.cls yX11_close yX11_close ∈ jg_ws := (jg_m7 52 rfl rfl)
set_option maxRecDepth 20000 in
theorem wc_X3_endVote : Cond.code mX3_endVote.1 mX3_endVote.2.1 mX3_endVote.2.2.1 mX3_endVote.2.2.2 ∈ jg_ws := (jg_m7 57 rfl rfl)
set_option maxRecDepth 20000 in
theorem wn_X3_endVote : Cond.instanceMethod yX3_endVote ∈ jg_ws := (jg_m7 55 rfl rfl)
set_option maxRecDepth 20000 in
theorem we_X3_endVote : Cond.selects yX3_endVote.cls yX3_endVote yX3_endVote ∈ jg_ws := (jg_m7 56 rfl rfl)
set_option maxRecDepth 20000 in
theorem wc_X11_judge : Cond.code mX11_judge.1 mX11_judge.2.1 mX11_judge.2.2.1 mX11_judge.2.2.2 ∈ jg_ws := (jg_m7 69 rfl rfl)
set_option maxRecDepth 20000 in
theorem wn_X11_judge : Cond.instanceMethod yX11_judge ∈ jg_ws := (jg_m7 67 rfl rfl)
set_option maxRecDepth 20000 in
theorem we_X11_judge : Cond.selects yX11_judge.cls yX11_judge yX11_judge ∈ jg_ws := (jg_m7 68 rfl rfl)
set_option maxRecDepth 20000 in
theorem wc_X0_firstThatHolds : Cond.code mX0_firstThatHolds.1 mX0_firstThatHolds.2.1 mX0_firstThatHolds.2.2.1 mX0_firstThatHolds.2.2.2 ∈ jg_ws := (jg_m7 74 rfl rfl)
set_option maxRecDepth 20000 in
theorem wn_X0_firstThatHolds : Cond.instanceMethod yX0_firstThatHolds ∈ jg_ws := (jg_m7 72 rfl rfl)
set_option maxRecDepth 20000 in
theorem we_X0_firstThatHolds : Cond.selects yX0_firstThatHolds.cls yX0_firstThatHolds yX0_firstThatHolds ∈ jg_ws := (jg_m7 73 rfl rfl)
set_option maxRecDepth 20000 in
theorem wc_X0_greatest : Cond.code mX0_greatest.1 mX0_greatest.2.1 mX0_greatest.2.2.1 mX0_greatest.2.2.2 ∈ jg_ws := (jg_m7 78 rfl rfl)
set_option maxRecDepth 20000 in
theorem wn_X0_greatest : Cond.instanceMethod yX0_greatest ∈ jg_ws := (jg_m7 76 rfl rfl)
set_option maxRecDepth 20000 in
theorem we_X0_greatest : Cond.selects yX0_greatest.cls yX0_greatest yX0_greatest ∈ jg_ws := (jg_m7 77 rfl rfl)
set_option maxRecDepth 20000 in
theorem wc_X11_back : Cond.code mX11_back.1 mX11_back.2.1 mX11_back.2.2.1 mX11_back.2.2.2 ∈ jg_ws := (jg_m7 86 rfl rfl)
set_option maxRecDepth 20000 in
theorem wn_X11_back : Cond.instanceMethod yX11_back ∈ jg_ws := (jg_m7 84 rfl rfl)
set_option maxRecDepth 20000 in
theorem we_X11_back : Cond.selects yX11_back.cls yX11_back yX11_back ∈ jg_ws := (jg_m7 85 rfl rfl)
set_option maxRecDepth 20000 in
theorem wc_X2_payBack : Cond.code mX2_payBack.1 mX2_payBack.2.1 mX2_payBack.2.2.1 mX2_payBack.2.2.2 ∈ jg_ws := (jg_m7 90 rfl rfl)
set_option maxRecDepth 20000 in
theorem wn_X2_payBack : Cond.instanceMethod yX2_payBack ∈ jg_ws := (jg_m7 88 rfl rfl)
set_option maxRecDepth 20000 in
theorem we_X2_payBack : Cond.selects yX2_payBack.cls yX2_payBack yX2_payBack ∈ jg_ws := (jg_m7 89 rfl rfl)
set_option maxRecDepth 20000 in
theorem wc_X6_giveBack : Cond.code mX6_giveBack.1 mX6_giveBack.2.1 mX6_giveBack.2.2.1 mX6_giveBack.2.2.2 ∈ jg_ws := (jg_m7 96 rfl rfl)
set_option maxRecDepth 20000 in
theorem wn_X6_giveBack : Cond.instanceMethod yX6_giveBack ∈ jg_ws := (jg_m7 94 rfl rfl)
set_option maxRecDepth 20000 in
theorem we_X6_giveBack : Cond.selects yX6_giveBack.cls yX6_giveBack yX6_giveBack ∈ jg_ws := (jg_m7 95 rfl rfl)
set_option maxRecDepth 20000 in
theorem wc_X11_pays : Cond.code mX11_pays.1 mX11_pays.2.1 mX11_pays.2.2.1 mX11_pays.2.2.2 ∈ jg_ws := (jg_m7 103 rfl rfl)
set_option maxRecDepth 20000 in
theorem wn_X11_pays : Cond.instanceMethod yX11_pays ∈ jg_ws := (jg_m7 101 rfl rfl)
set_option maxRecDepth 20000 in
theorem we_X11_pays : Cond.selects yX11_pays.cls yX11_pays yX11_pays ∈ jg_ws := (jg_m7 102 rfl rfl)
set_option maxRecDepth 20000 in
theorem wc_X5_countShipsOf : Cond.code mX5_countShipsOf.1 mX5_countShipsOf.2.1 mX5_countShipsOf.2.2.1 mX5_countShipsOf.2.2.2 ∈ jg_ws := (jg_m7 107 rfl rfl)
set_option maxRecDepth 20000 in
theorem wn_X5_countShipsOf : Cond.instanceMethod yX5_countShipsOf ∈ jg_ws := (jg_m7 105 rfl rfl)
set_option maxRecDepth 20000 in
theorem we_X5_countShipsOf : Cond.selects yX5_countShipsOf.cls yX5_countShipsOf yX5_countShipsOf ∈ jg_ws := (jg_m7 106 rfl rfl)
set_option maxRecDepth 20000 in
theorem wc_X11_cash : Cond.code mX11_cash.1 mX11_cash.2.1 mX11_cash.2.2.1 mX11_cash.2.2.2 ∈ jg_ws := (jg_m7 115 rfl rfl)
set_option maxRecDepth 20000 in
theorem wn_X11_cash : Cond.instanceMethod yX11_cash ∈ jg_ws := (jg_m7 113 rfl rfl)
set_option maxRecDepth 20000 in
theorem we_X11_cash : Cond.selects yX11_cash.cls yX11_cash yX11_cash ∈ jg_ws := (jg_m7 114 rfl rfl)
set_option maxRecDepth 20000 in
theorem wc_X11_bond : Cond.code mX11_bond.1 mX11_bond.2.1 mX11_bond.2.2.1 mX11_bond.2.2.2 ∈ jg_ws := (jg_m7 123 rfl rfl)
set_option maxRecDepth 20000 in
theorem wn_X11_bond : Cond.instanceMethod yX11_bond ∈ jg_ws := (jg_m7 121 rfl rfl)
set_option maxRecDepth 20000 in
theorem we_X11_bond : Cond.selects yX11_bond.cls yX11_bond yX11_bond ∈ jg_ws := (jg_m7 122 rfl rfl)
set_option maxRecDepth 20000 in
theorem wc_X6_borrowed : Cond.code mX6_borrowed.1 mX6_borrowed.2.1 mX6_borrowed.2.2.1 mX6_borrowed.2.2.2 ∈ jg_ws := (jg_m7 127 rfl rfl)
set_option maxRecDepth 20000 in
theorem wn_X6_borrowed : Cond.instanceMethod yX6_borrowed ∈ jg_ws := (jg_m7 125 rfl rfl)
set_option maxRecDepth 20000 in
theorem we_X6_borrowed : Cond.selects yX6_borrowed.cls yX6_borrowed yX6_borrowed ∈ jg_ws := (jg_m7 126 rfl rfl)
set_option maxRecDepth 20000 in
theorem wc_X6_sell : Cond.code mX6_sell.1 mX6_sell.2.1 mX6_sell.2.2.1 mX6_sell.2.2.2 ∈ jg_ws := (jg_m7 132 rfl rfl)
set_option maxRecDepth 20000 in
theorem wn_X6_sell : Cond.instanceMethod yX6_sell ∈ jg_ws := (jg_m7 130 rfl rfl)
set_option maxRecDepth 20000 in
theorem we_X6_sell : Cond.selects yX6_sell.cls yX6_sell yX6_sell ∈ jg_ws := (jg_m7 131 rfl rfl)
set_option maxRecDepth 20000 in
theorem wc_X11_owes : Cond.code mX11_owes.1 mX11_owes.2.1 mX11_owes.2.2.1 mX11_owes.2.2.2 ∈ jg_ws := (jg_m7 139 rfl rfl)
set_option maxRecDepth 20000 in
theorem wn_X11_owes : Cond.instanceMethod yX11_owes ∈ jg_ws := (jg_m7 137 rfl rfl)
set_option maxRecDepth 20000 in
theorem we_X11_owes : Cond.selects yX11_owes.cls yX11_owes yX11_owes ∈ jg_ws := (jg_m7 138 rfl rfl)
set_option maxRecDepth 20000 in
theorem wc_X11_work : Cond.code mX11_work.1 mX11_work.2.1 mX11_work.2.2.1 mX11_work.2.2.2 ∈ jg_ws := (jg_m7 147 rfl rfl)
set_option maxRecDepth 20000 in
theorem wn_X11_work : Cond.instanceMethod yX11_work ∈ jg_ws := (jg_m7 145 rfl rfl)
set_option maxRecDepth 20000 in
theorem we_X11_work : Cond.selects yX11_work.cls yX11_work yX11_work ∈ jg_ws := (jg_m7 146 rfl rfl)
set_option maxRecDepth 20000 in
theorem wc_X4_addWork : Cond.code mX4_addWork.1 mX4_addWork.2.1 mX4_addWork.2.2.1 mX4_addWork.2.2.2 ∈ jg_ws := (jg_m7 152 rfl rfl)
set_option maxRecDepth 20000 in
theorem wn_X4_addWork : Cond.instanceMethod yX4_addWork ∈ jg_ws := (jg_m7 150 rfl rfl)
set_option maxRecDepth 20000 in
theorem we_X4_addWork : Cond.selects yX4_addWork.cls yX4_addWork yX4_addWork ∈ jg_ws := (jg_m7 151 rfl rfl)
set_option maxRecDepth 20000 in
theorem wc_X11_worth : Cond.code mX11_worth.1 mX11_worth.2.1 mX11_worth.2.2.1 mX11_worth.2.2.2 ∈ jg_ws := (jg_m7 159 rfl rfl)
set_option maxRecDepth 20000 in
theorem wn_X11_worth : Cond.instanceMethod yX11_worth ∈ jg_ws := (jg_m7 157 rfl rfl)
set_option maxRecDepth 20000 in
theorem we_X11_worth : Cond.selects yX11_worth.cls yX11_worth yX11_worth ∈ jg_ws := (jg_m7 158 rfl rfl)
set_option maxRecDepth 20000 in
theorem wc_X4_worthOf : Cond.code mX4_worthOf.1 mX4_worthOf.2.1 mX4_worthOf.2.2.1 mX4_worthOf.2.2.2 ∈ jg_ws := (jg_m7 163 rfl rfl)
set_option maxRecDepth 20000 in
theorem wn_X4_worthOf : Cond.instanceMethod yX4_worthOf ∈ jg_ws := (jg_m7 161 rfl rfl)
set_option maxRecDepth 20000 in
theorem we_X4_worthOf : Cond.selects yX4_worthOf.cls yX4_worthOf yX4_worthOf ∈ jg_ws := (jg_m7 162 rfl rfl)
set_option maxRecDepth 20000 in
theorem wc_X11_best : Cond.code mX11_best.1 mX11_best.2.1 mX11_best.2.2.1 mX11_best.2.2.2 ∈ jg_ws := (jg_m7 170 rfl rfl)
set_option maxRecDepth 20000 in
theorem wn_X11_best : Cond.instanceMethod yX11_best ∈ jg_ws := (jg_m7 168 rfl rfl)
set_option maxRecDepth 20000 in
theorem we_X11_best : Cond.selects yX11_best.cls yX11_best yX11_best ∈ jg_ws := (jg_m7 169 rfl rfl)
set_option maxRecDepth 20000 in
theorem wc_X4_bestSet : Cond.code mX4_bestSet.1 mX4_bestSet.2.1 mX4_bestSet.2.2.1 mX4_bestSet.2.2.2 ∈ jg_ws := (jg_m7 174 rfl rfl)
set_option maxRecDepth 20000 in
theorem wn_X4_bestSet : Cond.instanceMethod yX4_bestSet ∈ jg_ws := (jg_m7 172 rfl rfl)
set_option maxRecDepth 20000 in
theorem we_X4_bestSet : Cond.selects yX4_bestSet.cls yX4_bestSet yX4_bestSet ∈ jg_ws := (jg_m7 173 rfl rfl)
set_option maxRecDepth 20000 in
theorem wc_J6_bitCount_0f7a4 : Cond.code mJ6_bitCount_0f7a4.1 mJ6_bitCount_0f7a4.2.1 mJ6_bitCount_0f7a4.2.2.1 mJ6_bitCount_0f7a4.2.2.2 ∈ jg_ws := (jg_m7 178 rfl rfl)
set_option maxRecDepth 20000 in
theorem wt_J6_bitCount_0f7a4 : Cond.static yJ6_bitCount_0f7a4 ∈ jg_ws := (jg_m7 177 rfl rfl)
set_option maxRecDepth 20000 in
theorem wc_X11_another : Cond.code mX11_another.1 mX11_another.2.1 mX11_another.2.2.1 mX11_another.2.2.2 ∈ jg_ws := (jg_m7 188 rfl rfl)
set_option maxRecDepth 20000 in
theorem wn_X11_another : Cond.instanceMethod yX11_another ∈ jg_ws := (jg_m7 186 rfl rfl)
set_option maxRecDepth 20000 in
theorem we_X11_another : Cond.selects yX11_another.cls yX11_another yX11_another ∈ jg_ws := (jg_m7 187 rfl rfl)
set_option maxRecDepth 20000 in
theorem wc_X2_underAnother : Cond.code mX2_underAnother.1 mX2_underAnother.2.1 mX2_underAnother.2.2.1 mX2_underAnother.2.2.2 ∈ jg_ws := (jg_m7 192 rfl rfl)
set_option maxRecDepth 20000 in
theorem wn_X2_underAnother : Cond.instanceMethod yX2_underAnother ∈ jg_ws := (jg_m7 190 rfl rfl)
set_option maxRecDepth 20000 in
theorem we_X2_underAnother : Cond.selects yX2_underAnother.cls yX2_underAnother yX2_underAnother ∈ jg_ws := (jg_m7 191 rfl rfl)
set_option maxRecDepth 20000 in
theorem wc_X12_thrown : Cond.code mX12_thrown.1 mX12_thrown.2.1 mX12_thrown.2.2.1 mX12_thrown.2.2.2 ∈ jg_ws := (jg_m7 196 rfl rfl)
set_option maxRecDepth 20000 in
theorem wn_X12_thrown : Cond.instanceMethod yX12_thrown ∈ jg_ws := (jg_m7 194 rfl rfl)
set_option maxRecDepth 20000 in
theorem we_X12_thrown : Cond.selects yX12_thrown.cls yX12_thrown yX12_thrown ∈ jg_ws := (jg_m7 195 rfl rfl)
set_option maxRecDepth 20000 in
theorem wc_X12_init : Cond.code mX12_init.1 mX12_init.2.1 mX12_init.2.2.1 mX12_init.2.2.2 ∈ jg_ws := (jg_m7 201 rfl rfl)
set_option maxRecDepth 20000 in
theorem wn_X12_init : Cond.instanceMethod yX12_init ∈ jg_ws := (jg_m7 200 rfl rfl)
set_option maxRecDepth 20000 in
theorem wc_X12_keep : Cond.code mX12_keep.1 mX12_keep.2.1 mX12_keep.2.2.1 mX12_keep.2.2.2 ∈ jg_ws := (jg_m8 36 rfl rfl)
set_option maxRecDepth 20000 in
theorem wn_X12_keep : Cond.instanceMethod yX12_keep ∈ jg_ws := (jg_m8 34 rfl rfl)
set_option maxRecDepth 20000 in
theorem we_X12_keep : Cond.selects yX12_keep.cls yX12_keep yX12_keep ∈ jg_ws := (jg_m8 35 rfl rfl)
set_option maxRecDepth 20000 in
theorem wc_X12_again : Cond.code mX12_again.1 mX12_again.2.1 mX12_again.2.2.1 mX12_again.2.2.2 ∈ jg_ws := (jg_m8 40 rfl rfl)
set_option maxRecDepth 20000 in
theorem wn_X12_again : Cond.instanceMethod yX12_again ∈ jg_ws := (jg_m8 38 rfl rfl)
set_option maxRecDepth 20000 in
theorem we_X12_again : Cond.selects yX12_again.cls yX12_again yX12_again ∈ jg_ws := (jg_m8 39 rfl rfl)
set_option maxRecDepth 20000 in
theorem wc_X12_river : Cond.code mX12_river.1 mX12_river.2.1 mX12_river.2.2.1 mX12_river.2.2.2 ∈ jg_ws := (jg_m8 44 rfl rfl)
set_option maxRecDepth 20000 in
theorem wn_X12_river : Cond.instanceMethod yX12_river ∈ jg_ws := (jg_m8 42 rfl rfl)
set_option maxRecDepth 20000 in
theorem we_X12_river : Cond.selects yX12_river.cls yX12_river yX12_river ∈ jg_ws := (jg_m8 43 rfl rfl)
set_option maxRecDepth 20000 in
theorem wc_X12_noCell : Cond.code mX12_noCell.1 mX12_noCell.2.1 mX12_noCell.2.2.1 mX12_noCell.2.2.2 ∈ jg_ws := (jg_m8 47 rfl rfl)
set_option maxRecDepth 20000 in
theorem wt_X12_noCell : Cond.static yX12_noCell ∈ jg_ws := (jg_m8 46 rfl rfl)
set_option maxRecDepth 20000 in
theorem wc_X12_in : Cond.code mX12_in.1 mX12_in.2.1 mX12_in.2.2.1 mX12_in.2.2.2 ∈ jg_ws := (jg_m8 50 rfl rfl)
set_option maxRecDepth 20000 in
theorem wt_X12_in : Cond.static yX12_in ∈ jg_ws := (jg_m8 49 rfl rfl)
set_option maxRecDepth 20000 in
theorem wc_X12_throwsIf : Cond.code mX12_throwsIf.1 mX12_throwsIf.2.1 mX12_throwsIf.2.2.1 mX12_throwsIf.2.2.2 ∈ jg_ws := (jg_m8 54 rfl rfl)
set_option maxRecDepth 20000 in
theorem wn_X12_throwsIf : Cond.instanceMethod yX12_throwsIf ∈ jg_ws := (jg_m8 53 rfl rfl)
theorem we_X12_throwsIf : Cond.selects yX12_throwsIf.cls yX12_throwsIf yX12_throwsIf ∈ jg_ws := (jg_memP 33 (by decide +kernel) rfl)
set_option maxRecDepth 20000 in
theorem wc_X12_hour : Cond.code mX12_hour.1 mX12_hour.2.1 mX12_hour.2.2.1 mX12_hour.2.2.2 ∈ jg_ws := (jg_m8 58 rfl rfl)
set_option maxRecDepth 20000 in
theorem wn_X12_hour : Cond.instanceMethod yX12_hour ∈ jg_ws := (jg_m8 57 rfl rfl)
theorem we_X12_hour : Cond.selects yX12_hour.cls yX12_hour yX12_hour ∈ jg_ws := (jg_memP 34 (by decide +kernel) rfl)
set_option maxRecDepth 20000 in
theorem wc_X12_tide : Cond.code mX12_tide.1 mX12_tide.2.1 mX12_tide.2.2.1 mX12_tide.2.2.2 ∈ jg_ws := (jg_m8 62 rfl rfl)
set_option maxRecDepth 20000 in
theorem wn_X12_tide : Cond.instanceMethod yX12_tide ∈ jg_ws := (jg_m8 60 rfl rfl)
set_option maxRecDepth 20000 in
theorem we_X12_tide : Cond.selects yX12_tide.cls yX12_tide yX12_tide ∈ jg_ws := (jg_m8 61 rfl rfl)
set_option maxRecDepth 20000 in
theorem wc_X12_run : Cond.code mX12_run.1 mX12_run.2.1 mX12_run.2.2.1 mX12_run.2.2.2 ∈ jg_ws := (jg_m8 66 rfl rfl)
set_option maxRecDepth 20000 in
theorem wn_X12_run : Cond.instanceMethod yX12_run ∈ jg_ws := (jg_m8 64 rfl rfl)
set_option maxRecDepth 20000 in
theorem we_X12_run : Cond.selects yX12_run.cls yX12_run yX12_run ∈ jg_ws := (jg_m8 65 rfl rfl)
set_option maxRecDepth 20000 in
theorem wc_X12_today : Cond.code mX12_today.1 mX12_today.2.1 mX12_today.2.2.1 mX12_today.2.2.2 ∈ jg_ws := (jg_m8 70 rfl rfl)
set_option maxRecDepth 20000 in
theorem wn_X12_today : Cond.instanceMethod yX12_today ∈ jg_ws := (jg_m8 69 rfl rfl)
theorem we_X12_today : Cond.selects yX12_today.cls yX12_today yX12_today ∈ jg_ws := (jg_memP 35 (by decide +kernel) rfl)
set_option maxRecDepth 20000 in
theorem wc_X12_dredger : Cond.code mX12_dredger.1 mX12_dredger.2.1 mX12_dredger.2.2.1 mX12_dredger.2.2.2 ∈ jg_ws := (jg_m8 74 rfl rfl)
set_option maxRecDepth 20000 in
theorem wn_X12_dredger : Cond.instanceMethod yX12_dredger ∈ jg_ws := (jg_m8 72 rfl rfl)
set_option maxRecDepth 20000 in
theorem we_X12_dredger : Cond.selects yX12_dredger.cls yX12_dredger yX12_dredger ∈ jg_ws := (jg_m8 73 rfl rfl)
set_option maxRecDepth 20000 in
theorem wc_X12_station : Cond.code mX12_station.1 mX12_station.2.1 mX12_station.2.2.1 mX12_station.2.2.2 ∈ jg_ws := (jg_m8 78 rfl rfl)
set_option maxRecDepth 20000 in
theorem wn_X12_station : Cond.instanceMethod yX12_station ∈ jg_ws := (jg_m8 76 rfl rfl)
set_option maxRecDepth 20000 in
theorem we_X12_station : Cond.selects yX12_station.cls yX12_station yX12_station ∈ jg_ws := (jg_m8 77 rfl rfl)
set_option maxRecDepth 20000 in
theorem wc_X12_sound : Cond.code mX12_sound.1 mX12_sound.2.1 mX12_sound.2.2.1 mX12_sound.2.2.2 ∈ jg_ws := (jg_m8 82 rfl rfl)
set_option maxRecDepth 20000 in
theorem wn_X12_sound : Cond.instanceMethod yX12_sound ∈ jg_ws := (jg_m8 80 rfl rfl)
set_option maxRecDepth 20000 in
theorem we_X12_sound : Cond.selects yX12_sound.cls yX12_sound yX12_sound ∈ jg_ws := (jg_m8 81 rfl rfl)
set_option maxRecDepth 20000 in
theorem wc_X12_known : Cond.code mX12_known.1 mX12_known.2.1 mX12_known.2.2.1 mX12_known.2.2.2 ∈ jg_ws := (jg_m8 86 rfl rfl)
set_option maxRecDepth 20000 in
theorem wn_X12_known : Cond.instanceMethod yX12_known ∈ jg_ws := (jg_m8 84 rfl rfl)
set_option maxRecDepth 20000 in
theorem we_X12_known : Cond.selects yX12_known.cls yX12_known yX12_known ∈ jg_ws := (jg_m8 85 rfl rfl)
set_option maxRecDepth 20000 in
theorem wc_X12_knownOf : Cond.code mX12_knownOf.1 mX12_knownOf.2.1 mX12_knownOf.2.2.1 mX12_knownOf.2.2.2 ∈ jg_ws := (jg_m8 90 rfl rfl)
set_option maxRecDepth 20000 in
theorem wn_X12_knownOf : Cond.instanceMethod yX12_knownOf ∈ jg_ws := (jg_m8 89 rfl rfl)
theorem we_X12_knownOf : Cond.selects yX12_knownOf.cls yX12_knownOf yX12_knownOf ∈ jg_ws := (jg_memP 36 (by decide +kernel) rfl)
set_option maxRecDepth 20000 in
theorem wc_X12_cell : Cond.code mX12_cell.1 mX12_cell.2.1 mX12_cell.2.2.1 mX12_cell.2.2.2 ∈ jg_ws := (jg_m8 94 rfl rfl)
set_option maxRecDepth 20000 in
theorem wn_X12_cell : Cond.instanceMethod yX12_cell ∈ jg_ws := (jg_m8 92 rfl rfl)
set_option maxRecDepth 20000 in
theorem we_X12_cell : Cond.selects yX12_cell.cls yX12_cell yX12_cell ∈ jg_ws := (jg_m8 93 rfl rfl)
set_option maxRecDepth 20000 in
theorem wc_X12_berth : Cond.code mX12_berth.1 mX12_berth.2.1 mX12_berth.2.2.1 mX12_berth.2.2.2 ∈ jg_ws := (jg_m8 98 rfl rfl)
set_option maxRecDepth 20000 in
theorem wn_X12_berth : Cond.instanceMethod yX12_berth ∈ jg_ws := (jg_m8 96 rfl rfl)
set_option maxRecDepth 20000 in
theorem we_X12_berth : Cond.selects yX12_berth.cls yX12_berth yX12_berth ∈ jg_ws := (jg_m8 97 rfl rfl)
set_option maxRecDepth 20000 in
theorem wc_X12_berthAt : Cond.code mX12_berthAt.1 mX12_berthAt.2.1 mX12_berthAt.2.2.1 mX12_berthAt.2.2.2 ∈ jg_ws := (jg_m8 102 rfl rfl)
set_option maxRecDepth 20000 in
theorem wt_X12_berthAt : Cond.static yX12_berthAt ∈ jg_ws := (jg_m8 101 rfl rfl)
set_option maxRecDepth 20000 in
theorem wc_X12_hands : Cond.code mX12_hands.1 mX12_hands.2.1 mX12_hands.2.2.1 mX12_hands.2.2.2 ∈ jg_ws := (jg_m8 106 rfl rfl)
set_option maxRecDepth 20000 in
theorem wn_X12_hands : Cond.instanceMethod yX12_hands ∈ jg_ws := (jg_m8 104 rfl rfl)
set_option maxRecDepth 20000 in
theorem we_X12_hands : Cond.selects yX12_hands.cls yX12_hands yX12_hands ∈ jg_ws := (jg_m8 105 rfl rfl)
set_option maxRecDepth 20000 in
theorem wc_X12_payer : Cond.code mX12_payer.1 mX12_payer.2.1 mX12_payer.2.2.1 mX12_payer.2.2.2 ∈ jg_ws := (jg_m8 110 rfl rfl)
set_option maxRecDepth 20000 in
theorem wn_X12_payer : Cond.instanceMethod yX12_payer ∈ jg_ws := (jg_m8 108 rfl rfl)
set_option maxRecDepth 20000 in
theorem we_X12_payer : Cond.selects yX12_payer.cls yX12_payer yX12_payer ∈ jg_ws := (jg_m8 109 rfl rfl)
set_option maxRecDepth 20000 in
theorem wc_X12_ship : Cond.code mX12_ship.1 mX12_ship.2.1 mX12_ship.2.2.1 mX12_ship.2.2.2 ∈ jg_ws := (jg_m8 114 rfl rfl)
set_option maxRecDepth 20000 in
theorem wn_X12_ship : Cond.instanceMethod yX12_ship ∈ jg_ws := (jg_m8 112 rfl rfl)
set_option maxRecDepth 20000 in
theorem we_X12_ship : Cond.selects yX12_ship.cls yX12_ship yX12_ship ∈ jg_ws := (jg_m8 113 rfl rfl)
set_option maxRecDepth 20000 in
theorem wc_X12_noPayer : Cond.code mX12_noPayer.1 mX12_noPayer.2.1 mX12_noPayer.2.2.1 mX12_noPayer.2.2.2 ∈ jg_ws := (jg_m8 118 rfl rfl)
set_option maxRecDepth 20000 in
theorem wn_X12_noPayer : Cond.instanceMethod yX12_noPayer ∈ jg_ws := (jg_m8 117 rfl rfl)
theorem we_X12_noPayer : Cond.selects yX12_noPayer.cls yX12_noPayer yX12_noPayer ∈ jg_ws := (jg_memP 37 (by decide +kernel) rfl)
set_option maxRecDepth 20000 in
theorem wc_X12_sets : Cond.code mX12_sets.1 mX12_sets.2.1 mX12_sets.2.2.1 mX12_sets.2.2.2 ∈ jg_ws := (jg_m8 123 rfl rfl)
set_option maxRecDepth 20000 in
theorem wn_X12_sets : Cond.instanceMethod yX12_sets ∈ jg_ws := (jg_m8 122 rfl rfl)
theorem we_X12_sets : Cond.selects yX12_sets.cls yX12_sets yX12_sets ∈ jg_ws := (jg_memP 38 (by decide +kernel) rfl)
set_option maxRecDepth 20000 in
theorem wc_X12_shipAt : Cond.code mX12_shipAt.1 mX12_shipAt.2.1 mX12_shipAt.2.2.1 mX12_shipAt.2.2.2 ∈ jg_ws := (jg_m8 126 rfl rfl)
set_option maxRecDepth 20000 in
theorem wt_X12_shipAt : Cond.static yX12_shipAt ∈ jg_ws := (jg_m8 125 rfl rfl)
set_option maxRecDepth 20000 in
theorem wc_X12_actOf : Cond.code mX12_actOf.1 mX12_actOf.2.1 mX12_actOf.2.2.1 mX12_actOf.2.2.2 ∈ jg_ws := (jg_m8 130 rfl rfl)
set_option maxRecDepth 20000 in
theorem wn_X12_actOf : Cond.instanceMethod yX12_actOf ∈ jg_ws := (jg_m8 129 rfl rfl)
theorem we_X12_actOf : Cond.selects yX12_actOf.cls yX12_actOf yX12_actOf ∈ jg_ws := (jg_memP 39 (by decide +kernel) rfl)
set_option maxRecDepth 20000 in
theorem wc_X12_actAt : Cond.code mX12_actAt.1 mX12_actAt.2.1 mX12_actAt.2.2.1 mX12_actAt.2.2.2 ∈ jg_ws := (jg_m8 133 rfl rfl)
set_option maxRecDepth 20000 in
theorem wt_X12_actAt : Cond.static yX12_actAt ∈ jg_ws := (jg_m8 132 rfl rfl)
set_option maxRecDepth 20000 in
theorem wc_X12_window : Cond.code mX12_window.1 mX12_window.2.1 mX12_window.2.2.1 mX12_window.2.2.2 ∈ jg_ws := (jg_m8 137 rfl rfl)
set_option maxRecDepth 20000 in
theorem wn_X12_window : Cond.instanceMethod yX12_window ∈ jg_ws := (jg_m8 135 rfl rfl)
set_option maxRecDepth 20000 in
theorem we_X12_window : Cond.selects yX12_window.cls yX12_window yX12_window ∈ jg_ws := (jg_m8 136 rfl rfl)
set_option maxRecDepth 20000 in
theorem wc_X12_noShip : Cond.code mX12_noShip.1 mX12_noShip.2.1 mX12_noShip.2.2.1 mX12_noShip.2.2.2 ∈ jg_ws := (jg_m8 141 rfl rfl)
set_option maxRecDepth 20000 in
theorem wn_X12_noShip : Cond.instanceMethod yX12_noShip ∈ jg_ws := (jg_m8 140 rfl rfl)
theorem we_X12_noShip : Cond.selects yX12_noShip.cls yX12_noShip yX12_noShip ∈ jg_ws := (jg_memP 40 (by decide +kernel) rfl)
set_option maxRecDepth 20000 in
theorem wc_X12_noBerth : Cond.code mX12_noBerth.1 mX12_noBerth.2.1 mX12_noBerth.2.2.1 mX12_noBerth.2.2.2 ∈ jg_ws := (jg_m8 145 rfl rfl)
set_option maxRecDepth 20000 in
theorem wn_X12_noBerth : Cond.instanceMethod yX12_noBerth ∈ jg_ws := (jg_m8 144 rfl rfl)
theorem we_X12_noBerth : Cond.selects yX12_noBerth.cls yX12_noBerth yX12_noBerth ∈ jg_ws := (jg_memP 41 (by decide +kernel) rfl)
set_option maxRecDepth 20000 in
theorem wc_X12_looks : Cond.code mX12_looks.1 mX12_looks.2.1 mX12_looks.2.2.1 mX12_looks.2.2.2 ∈ jg_ws := (jg_m8 149 rfl rfl)
set_option maxRecDepth 20000 in
theorem wn_X12_looks : Cond.instanceMethod yX12_looks ∈ jg_ws := (jg_m8 148 rfl rfl)
theorem we_X12_looks : Cond.selects yX12_looks.cls yX12_looks yX12_looks ∈ jg_ws := (jg_memP 42 (by decide +kernel) rfl)
set_option maxRecDepth 20000 in
theorem wc_X12_of : Cond.code mX12_of.1 mX12_of.2.1 mX12_of.2.2.1 mX12_of.2.2.2 ∈ jg_ws := (jg_m8 153 rfl rfl)
set_option maxRecDepth 20000 in
theorem wn_X12_of : Cond.instanceMethod yX12_of ∈ jg_ws := (jg_m8 152 rfl rfl)
theorem we_X12_of : Cond.selects yX12_of.cls yX12_of yX12_of ∈ jg_ws := (jg_memP 43 (by decide +kernel) rfl)
set_option maxRecDepth 20000 in
theorem wc_X12_berthOf : Cond.code mX12_berthOf.1 mX12_berthOf.2.1 mX12_berthOf.2.2.1 mX12_berthOf.2.2.2 ∈ jg_ws := (jg_m8 157 rfl rfl)
set_option maxRecDepth 20000 in
theorem wn_X12_berthOf : Cond.instanceMethod yX12_berthOf ∈ jg_ws := (jg_m8 156 rfl rfl)
theorem we_X12_berthOf : Cond.selects yX12_berthOf.cls yX12_berthOf yX12_berthOf ∈ jg_ws := (jg_memP 44 (by decide +kernel) rfl)
set_option maxRecDepth 20000 in
theorem wc_X12_isSafe : Cond.code mX12_isSafe.1 mX12_isSafe.2.1 mX12_isSafe.2.2.1 mX12_isSafe.2.2.2 ∈ jg_ws := (jg_m8 161 rfl rfl)
set_option maxRecDepth 20000 in
theorem wn_X12_isSafe : Cond.instanceMethod yX12_isSafe ∈ jg_ws := (jg_m8 160 rfl rfl)
theorem we_X12_isSafe : Cond.selects yX12_isSafe.cls yX12_isSafe yX12_isSafe ∈ jg_ws := (jg_memP 45 (by decide +kernel) rfl)
set_option maxRecDepth 20000 in
theorem wc_X12_clearance : Cond.code mX12_clearance.1 mX12_clearance.2.1 mX12_clearance.2.2.1 mX12_clearance.2.2.2 ∈ jg_ws := (jg_m8 165 rfl rfl)
set_option maxRecDepth 20000 in
theorem wn_X12_clearance : Cond.instanceMethod yX12_clearance ∈ jg_ws := (jg_m8 164 rfl rfl)
theorem we_X12_clearance : Cond.selects yX12_clearance.cls yX12_clearance yX12_clearance ∈ jg_ws := (jg_memP 46 (by decide +kernel) rfl)
set_option maxRecDepth 20000 in
theorem wc_X12_lastOf : Cond.code mX12_lastOf.1 mX12_lastOf.2.1 mX12_lastOf.2.2.1 mX12_lastOf.2.2.2 ∈ jg_ws := (jg_m8 169 rfl rfl)
set_option maxRecDepth 20000 in
theorem wn_X12_lastOf : Cond.instanceMethod yX12_lastOf ∈ jg_ws := (jg_m8 168 rfl rfl)
theorem we_X12_lastOf : Cond.selects yX12_lastOf.cls yX12_lastOf yX12_lastOf ∈ jg_ws := (jg_memP 47 (by decide +kernel) rfl)
set_option maxRecDepth 20000 in
theorem wc_X12_linesOf : Cond.code mX12_linesOf.1 mX12_linesOf.2.1 mX12_linesOf.2.2.1 mX12_linesOf.2.2.2 ∈ jg_ws := (jg_m8 173 rfl rfl)
set_option maxRecDepth 20000 in
theorem wn_X12_linesOf : Cond.instanceMethod yX12_linesOf ∈ jg_ws := (jg_m8 172 rfl rfl)
theorem we_X12_linesOf : Cond.selects yX12_linesOf.cls yX12_linesOf yX12_linesOf ∈ jg_ws := (jg_memP 48 (by decide +kernel) rfl)
set_option maxRecDepth 20000 in
theorem wc_X12_hourAt : Cond.code mX12_hourAt.1 mX12_hourAt.2.1 mX12_hourAt.2.2.1 mX12_hourAt.2.2.2 ∈ jg_ws := (jg_m8 176 rfl rfl)
set_option maxRecDepth 20000 in
theorem wt_X12_hourAt : Cond.static yX12_hourAt ∈ jg_ws := (jg_m8 175 rfl rfl)
set_option maxRecDepth 20000 in
theorem wc_X12_tideOf : Cond.code mX12_tideOf.1 mX12_tideOf.2.1 mX12_tideOf.2.2.1 mX12_tideOf.2.2.2 ∈ jg_ws := (jg_m8 180 rfl rfl)
set_option maxRecDepth 20000 in
theorem wn_X12_tideOf : Cond.instanceMethod yX12_tideOf ∈ jg_ws := (jg_m8 179 rfl rfl)
theorem we_X12_tideOf : Cond.selects yX12_tideOf.cls yX12_tideOf yX12_tideOf ∈ jg_ws := (jg_memP 49 (by decide +kernel) rfl)
set_option maxRecDepth 20000 in
theorem wc_X12_hours : Cond.code mX12_hours.1 mX12_hours.2.1 mX12_hours.2.2.1 mX12_hours.2.2.2 ∈ jg_ws := (jg_m8 184 rfl rfl)
set_option maxRecDepth 20000 in
theorem wn_X12_hours : Cond.instanceMethod yX12_hours ∈ jg_ws := (jg_m8 182 rfl rfl)
set_option maxRecDepth 20000 in
theorem we_X12_hours : Cond.selects yX12_hours.cls yX12_hours yX12_hours ∈ jg_ws := (jg_m8 183 rfl rfl)
set_option maxRecDepth 20000 in
theorem wc_X12_anHour : Cond.code mX12_anHour.1 mX12_anHour.2.1 mX12_anHour.2.2.1 mX12_anHour.2.2.2 ∈ jg_ws := (jg_m8 188 rfl rfl)
set_option maxRecDepth 20000 in
theorem wn_X12_anHour : Cond.instanceMethod yX12_anHour ∈ jg_ws := (jg_m8 187 rfl rfl)
theorem we_X12_anHour : Cond.selects yX12_anHour.cls yX12_anHour yX12_anHour ∈ jg_ws := (jg_memP 50 (by decide +kernel) rfl)
set_option maxRecDepth 20000 in
theorem wc_X12_leaves : Cond.code mX12_leaves.1 mX12_leaves.2.1 mX12_leaves.2.2.1 mX12_leaves.2.2.2 ∈ jg_ws := (jg_m8 192 rfl rfl)
set_option maxRecDepth 20000 in
theorem wn_X12_leaves : Cond.instanceMethod yX12_leaves ∈ jg_ws := (jg_m8 191 rfl rfl)
theorem we_X12_leaves : Cond.selects yX12_leaves.cls yX12_leaves yX12_leaves ∈ jg_ws := (jg_memP 51 (by decide +kernel) rfl)
set_option maxRecDepth 20000 in
theorem wc_X12_freePilots : Cond.code mX12_freePilots.1 mX12_freePilots.2.1 mX12_freePilots.2.2.1 mX12_freePilots.2.2.2 ∈ jg_ws := (jg_m8 196 rfl rfl)
set_option maxRecDepth 20000 in
theorem wn_X12_freePilots : Cond.instanceMethod yX12_freePilots ∈ jg_ws := (jg_m8 195 rfl rfl)
theorem we_X12_freePilots : Cond.selects yX12_freePilots.cls yX12_freePilots yX12_freePilots ∈ jg_ws := (jg_memP 52 (by decide +kernel) rfl)
set_option maxRecDepth 20000 in
theorem wc_X12_touches : Cond.code mX12_touches.1 mX12_touches.2.1 mX12_touches.2.2.1 mX12_touches.2.2.2 ∈ jg_ws := (jg_m8 201 rfl rfl)
set_option maxRecDepth 20000 in
theorem wn_X12_touches : Cond.instanceMethod yX12_touches ∈ jg_ws := (jg_m8 200 rfl rfl)
theorem we_X12_touches : Cond.selects yX12_touches.cls yX12_touches yX12_touches ∈ jg_ws := (jg_memP 53 (by decide +kernel) rfl)
set_option maxRecDepth 20000 in
theorem wc_X12_pilots : Cond.code mX12_pilots.1 mX12_pilots.2.1 mX12_pilots.2.2.1 mX12_pilots.2.2.2 ∈ jg_ws := (jg_m8 205 rfl rfl)
set_option maxRecDepth 20000 in
theorem wn_X12_pilots : Cond.instanceMethod yX12_pilots ∈ jg_ws := (jg_m8 204 rfl rfl)
theorem we_X12_pilots : Cond.selects yX12_pilots.cls yX12_pilots yX12_pilots ∈ jg_ws := (jg_memP 54 (by decide +kernel) rfl)
set_option maxRecDepth 20000 in
theorem wc_X12_dueOf : Cond.code mX12_dueOf.1 mX12_dueOf.2.1 mX12_dueOf.2.2.1 mX12_dueOf.2.2.2 ∈ jg_ws := (jg_m8 209 rfl rfl)
set_option maxRecDepth 20000 in
theorem wn_X12_dueOf : Cond.instanceMethod yX12_dueOf ∈ jg_ws := (jg_m8 208 rfl rfl)
theorem we_X12_dueOf : Cond.selects yX12_dueOf.cls yX12_dueOf yX12_dueOf ∈ jg_ws := (jg_memP 55 (by decide +kernel) rfl)
set_option maxRecDepth 20000 in
theorem wc_X12_looksAtShip : Cond.code mX12_looksAtShip.1 mX12_looksAtShip.2.1 mX12_looksAtShip.2.2.1 mX12_looksAtShip.2.2.2 ∈ jg_ws := (jg_m8 213 rfl rfl)
set_option maxRecDepth 20000 in
theorem wn_X12_looksAtShip : Cond.instanceMethod yX12_looksAtShip ∈ jg_ws := (jg_m8 212 rfl rfl)
theorem we_X12_looksAtShip : Cond.selects yX12_looksAtShip.cls yX12_looksAtShip yX12_looksAtShip ∈ jg_ws := (jg_memP 56 (by decide +kernel) rfl)
set_option maxRecDepth 20000 in
theorem wc_X12_sumOf : Cond.code mX12_sumOf.1 mX12_sumOf.2.1 mX12_sumOf.2.2.1 mX12_sumOf.2.2.2 ∈ jg_ws := (jg_m8 217 rfl rfl)
set_option maxRecDepth 20000 in
theorem wn_X12_sumOf : Cond.instanceMethod yX12_sumOf ∈ jg_ws := (jg_m8 216 rfl rfl)
theorem we_X12_sumOf : Cond.selects yX12_sumOf.cls yX12_sumOf yX12_sumOf ∈ jg_ws := (jg_memP 57 (by decide +kernel) rfl)
set_option maxRecDepth 20000 in
theorem wc_X12_holds : Cond.code mX12_holds.1 mX12_holds.2.1 mX12_holds.2.2.1 mX12_holds.2.2.2 ∈ jg_ws := (jg_m8 221 rfl rfl)
set_option maxRecDepth 20000 in
theorem wn_X12_holds : Cond.instanceMethod yX12_holds ∈ jg_ws := (jg_m8 220 rfl rfl)
theorem we_X12_holds : Cond.selects yX12_holds.cls yX12_holds yX12_holds ∈ jg_ws := (jg_memP 58 (by decide +kernel) rfl)
set_option maxRecDepth 20000 in
theorem wc_X12_added : Cond.code mX12_added.1 mX12_added.2.1 mX12_added.2.2.1 mX12_added.2.2.2 ∈ jg_ws := (jg_m8 224 rfl rfl)
set_option maxRecDepth 20000 in
theorem wt_X12_added : Cond.static yX12_added ∈ jg_ws := (jg_m8 223 rfl rfl)
set_option maxRecDepth 20000 in
theorem wc_X12_payerAt : Cond.code mX12_payerAt.1 mX12_payerAt.2.1 mX12_payerAt.2.2.1 mX12_payerAt.2.2.2 ∈ jg_ws := (jg_m8 229 rfl rfl)
set_option maxRecDepth 20000 in
theorem wt_X12_payerAt : Cond.static yX12_payerAt ∈ jg_ws := (jg_m8 228 rfl rfl)
set_option maxRecDepth 20000 in
theorem wc_X12_lines : Cond.code mX12_lines.1 mX12_lines.2.1 mX12_lines.2.2.1 mX12_lines.2.2.2 ∈ jg_ws := (jg_m8 233 rfl rfl)
set_option maxRecDepth 20000 in
theorem wn_X12_lines : Cond.instanceMethod yX12_lines ∈ jg_ws := (jg_m8 232 rfl rfl)
theorem we_X12_lines : Cond.selects yX12_lines.cls yX12_lines yX12_lines ∈ jg_ws := (jg_memP 59 (by decide +kernel) rfl)
set_option maxRecDepth 20000 in
theorem wc_X12_keyOf : Cond.code mX12_keyOf.1 mX12_keyOf.2.1 mX12_keyOf.2.2.1 mX12_keyOf.2.2.2 ∈ jg_ws := (jg_m8 237 rfl rfl)
set_option maxRecDepth 20000 in
theorem wn_X12_keyOf : Cond.instanceMethod yX12_keyOf ∈ jg_ws := (jg_m8 236 rfl rfl)
theorem we_X12_keyOf : Cond.selects yX12_keyOf.cls yX12_keyOf yX12_keyOf ∈ jg_ws := (jg_memP 60 (by decide +kernel) rfl)
set_option maxRecDepth 20000 in
theorem wc_X12_comes : Cond.code mX12_comes.1 mX12_comes.2.1 mX12_comes.2.2.1 mX12_comes.2.2.2 ∈ jg_ws := (jg_m9 1 rfl rfl)
set_option maxRecDepth 20000 in
theorem wn_X12_comes : Cond.instanceMethod yX12_comes ∈ jg_ws := (jg_m9 0 rfl rfl)
theorem we_X12_comes : Cond.selects yX12_comes.cls yX12_comes yX12_comes ∈ jg_ws := (jg_memP 61 (by decide +kernel) rfl)
set_option maxRecDepth 20000 in
theorem wc_X12_mayHave : Cond.code mX12_mayHave.1 mX12_mayHave.2.1 mX12_mayHave.2.2.1 mX12_mayHave.2.2.2 ∈ jg_ws := (jg_m9 5 rfl rfl)
set_option maxRecDepth 20000 in
theorem wn_X12_mayHave : Cond.instanceMethod yX12_mayHave ∈ jg_ws := (jg_m9 4 rfl rfl)
theorem we_X12_mayHave : Cond.selects yX12_mayHave.cls yX12_mayHave yX12_mayHave ∈ jg_ws := (jg_memP 62 (by decide +kernel) rfl)
set_option maxRecDepth 20000 in
theorem wc_X12_isClosed : Cond.code mX12_isClosed.1 mX12_isClosed.2.1 mX12_isClosed.2.2.1 mX12_isClosed.2.2.2 ∈ jg_ws := (jg_m9 9 rfl rfl)
set_option maxRecDepth 20000 in
theorem wn_X12_isClosed : Cond.instanceMethod yX12_isClosed ∈ jg_ws := (jg_m9 8 rfl rfl)
theorem we_X12_isClosed : Cond.selects yX12_isClosed.cls yX12_isClosed yX12_isClosed ∈ jg_ws := (jg_memP 63 (by decide +kernel) rfl)
set_option maxRecDepth 20000 in
theorem wc_X12_unloads : Cond.code mX12_unloads.1 mX12_unloads.2.1 mX12_unloads.2.2.1 mX12_unloads.2.2.2 ∈ jg_ws := (jg_m9 13 rfl rfl)
set_option maxRecDepth 20000 in
theorem wn_X12_unloads : Cond.instanceMethod yX12_unloads ∈ jg_ws := (jg_m9 12 rfl rfl)
theorem we_X12_unloads : Cond.selects yX12_unloads.cls yX12_unloads yX12_unloads ∈ jg_ws := (jg_memP 64 (by decide +kernel) rfl)
set_option maxRecDepth 20000 in
theorem wc_X12_hauls : Cond.code mX12_hauls.1 mX12_hauls.2.1 mX12_hauls.2.2.1 mX12_hauls.2.2.2 ∈ jg_ws := (jg_m9 18 rfl rfl)
set_option maxRecDepth 20000 in
theorem wn_X12_hauls : Cond.instanceMethod yX12_hauls ∈ jg_ws := (jg_m9 17 rfl rfl)
theorem we_X12_hauls : Cond.selects yX12_hauls.cls yX12_hauls yX12_hauls ∈ jg_ws := (jg_memP 65 (by decide +kernel) rfl)
set_option maxRecDepth 20000 in
theorem wc_X12_dayEnds : Cond.code mX12_dayEnds.1 mX12_dayEnds.2.1 mX12_dayEnds.2.2.1 mX12_dayEnds.2.2.2 ∈ jg_ws := (jg_m9 22 rfl rfl)
set_option maxRecDepth 20000 in
theorem wn_X12_dayEnds : Cond.instanceMethod yX12_dayEnds ∈ jg_ws := (jg_m9 21 rfl rfl)
theorem we_X12_dayEnds : Cond.selects yX12_dayEnds.cls yX12_dayEnds yX12_dayEnds ∈ jg_ws := (jg_memP 66 (by decide +kernel) rfl)
set_option maxRecDepth 20000 in
theorem wc_X12_settles : Cond.code mX12_settles.1 mX12_settles.2.1 mX12_settles.2.2.1 mX12_settles.2.2.2 ∈ jg_ws := (jg_m9 26 rfl rfl)
set_option maxRecDepth 20000 in
theorem wn_X12_settles : Cond.instanceMethod yX12_settles ∈ jg_ws := (jg_m9 25 rfl rfl)
theorem we_X12_settles : Cond.selects yX12_settles.cls yX12_settles yX12_settles ∈ jg_ws := (jg_memP 67 (by decide +kernel) rfl)
set_option maxRecDepth 20000 in
theorem wc_X12_runOf : Cond.code mX12_runOf.1 mX12_runOf.2.1 mX12_runOf.2.2.1 mX12_runOf.2.2.2 ∈ jg_ws := (jg_m9 30 rfl rfl)
set_option maxRecDepth 20000 in
theorem wn_X12_runOf : Cond.instanceMethod yX12_runOf ∈ jg_ws := (jg_m9 29 rfl rfl)
theorem we_X12_runOf : Cond.selects yX12_runOf.cls yX12_runOf yX12_runOf ∈ jg_ws := (jg_memP 68 (by decide +kernel) rfl)
set_option maxRecDepth 20000 in
theorem wc_X12_digs : Cond.code mX12_digs.1 mX12_digs.2.1 mX12_digs.2.2.1 mX12_digs.2.2.2 ∈ jg_ws := (jg_m9 34 rfl rfl)
set_option maxRecDepth 20000 in
theorem wn_X12_digs : Cond.instanceMethod yX12_digs ∈ jg_ws := (jg_m9 33 rfl rfl)
theorem we_X12_digs : Cond.selects yX12_digs.cls yX12_digs yX12_digs ∈ jg_ws := (jg_memP 69 (by decide +kernel) rfl)
set_option maxRecDepth 20000 in
theorem wc_X12_yearEnds : Cond.code mX12_yearEnds.1 mX12_yearEnds.2.1 mX12_yearEnds.2.2.1 mX12_yearEnds.2.2.2 ∈ jg_ws := (jg_m9 38 rfl rfl)
set_option maxRecDepth 20000 in
theorem wn_X12_yearEnds : Cond.instanceMethod yX12_yearEnds ∈ jg_ws := (jg_m9 37 rfl rfl)
theorem we_X12_yearEnds : Cond.selects yX12_yearEnds.cls yX12_yearEnds yX12_yearEnds ∈ jg_ws := (jg_memP 70 (by decide +kernel) rfl)
set_option maxRecDepth 20000 in
theorem wc_X12_year : Cond.code mX12_year.1 mX12_year.2.1 mX12_year.2.2.1 mX12_year.2.2.2 ∈ jg_ws := (jg_m9 42 rfl rfl)
set_option maxRecDepth 20000 in
theorem wn_X12_year : Cond.instanceMethod yX12_year ∈ jg_ws := (jg_m9 41 rfl rfl)
theorem we_X12_year : Cond.selects yX12_year.cls yX12_year yX12_year ∈ jg_ws := (jg_memP 71 (by decide +kernel) rfl)
set_option maxRecDepth 20000 in
theorem wc_X12_bondOf : Cond.code mX12_bondOf.1 mX12_bondOf.2.1 mX12_bondOf.2.2.1 mX12_bondOf.2.2.2 ∈ jg_ws := (jg_m9 46 rfl rfl)
set_option maxRecDepth 20000 in
theorem wn_X12_bondOf : Cond.instanceMethod yX12_bondOf ∈ jg_ws := (jg_m9 45 rfl rfl)
theorem we_X12_bondOf : Cond.selects yX12_bondOf.cls yX12_bondOf yX12_bondOf ∈ jg_ws := (jg_memP 72 (by decide +kernel) rfl)
set_option maxRecDepth 20000 in
theorem wc_X12_bondAt : Cond.code mX12_bondAt.1 mX12_bondAt.2.1 mX12_bondAt.2.2.1 mX12_bondAt.2.2.2 ∈ jg_ws := (jg_m9 49 rfl rfl)
set_option maxRecDepth 20000 in
theorem wt_X12_bondAt : Cond.static yX12_bondAt ∈ jg_ws := (jg_m9 48 rfl rfl)
set_option maxRecDepth 20000 in
theorem wc_X12_paysBond : Cond.code mX12_paysBond.1 mX12_paysBond.2.1 mX12_paysBond.2.2.1 mX12_paysBond.2.2.2 ∈ jg_ws := (jg_m9 53 rfl rfl)
set_option maxRecDepth 20000 in
theorem wn_X12_paysBond : Cond.instanceMethod yX12_paysBond ∈ jg_ws := (jg_m9 52 rfl rfl)
theorem we_X12_paysBond : Cond.selects yX12_paysBond.cls yX12_paysBond yX12_paysBond ∈ jg_ws := (jg_memP 73 (by decide +kernel) rfl)
set_option maxRecDepth 20000 in
theorem wc_X12_led : Cond.code mX12_led.1 mX12_led.2.1 mX12_led.2.2.1 mX12_led.2.2.2 ∈ jg_ws := (jg_m9 58 rfl rfl)
set_option maxRecDepth 20000 in
theorem wn_X12_led : Cond.instanceMethod yX12_led ∈ jg_ws := (jg_m9 56 rfl rfl)
set_option maxRecDepth 20000 in
theorem we_X12_led : Cond.selects yX12_led.cls yX12_led yX12_led ∈ jg_ws := (jg_m9 57 rfl rfl)
set_option maxRecDepth 20000 in
theorem wc_X12_quay : Cond.code mX12_quay.1 mX12_quay.2.1 mX12_quay.2.2.1 mX12_quay.2.2.2 ∈ jg_ws := (jg_m9 62 rfl rfl)
set_option maxRecDepth 20000 in
theorem wn_X12_quay : Cond.instanceMethod yX12_quay ∈ jg_ws := (jg_m9 60 rfl rfl)
set_option maxRecDepth 20000 in
theorem we_X12_quay : Cond.selects yX12_quay.cls yX12_quay yX12_quay ∈ jg_ws := (jg_m9 61 rfl rfl)
set_option maxRecDepth 20000 in
theorem wc_X12_feed : Cond.code mX12_feed.1 mX12_feed.2.1 mX12_feed.2.2.1 mX12_feed.2.2.2 ∈ jg_ws := (jg_m9 66 rfl rfl)
set_option maxRecDepth 20000 in
theorem wn_X12_feed : Cond.instanceMethod yX12_feed ∈ jg_ws := (jg_m9 64 rfl rfl)
set_option maxRecDepth 20000 in
theorem we_X12_feed : Cond.selects yX12_feed.cls yX12_feed yX12_feed ∈ jg_ws := (jg_m9 65 rfl rfl)
set_option maxRecDepth 20000 in
theorem wc_X12_end : Cond.code mX12_end.1 mX12_end.2.1 mX12_end.2.2.1 mX12_end.2.2.2 ∈ jg_ws := (jg_m9 70 rfl rfl)
set_option maxRecDepth 20000 in
theorem wn_X12_end : Cond.instanceMethod yX12_end ∈ jg_ws := (jg_m9 68 rfl rfl)
set_option maxRecDepth 20000 in
theorem we_X12_end : Cond.selects yX12_end.cls yX12_end yX12_end ∈ jg_ws := (jg_m9 69 rfl rfl)
set_option maxRecDepth 20000 in
theorem wc_X12_fault : Cond.code mX12_fault.1 mX12_fault.2.1 mX12_fault.2.2.1 mX12_fault.2.2.2 ∈ jg_ws := (jg_m9 74 rfl rfl)
set_option maxRecDepth 20000 in
theorem wn_X12_fault : Cond.instanceMethod yX12_fault ∈ jg_ws := (jg_m9 72 rfl rfl)
set_option maxRecDepth 20000 in
theorem we_X12_fault : Cond.selects yX12_fault.cls yX12_fault yX12_fault ∈ jg_ws := (jg_m9 73 rfl rfl)
set_option maxRecDepth 20000 in
theorem wc_X12_act : Cond.code mX12_act.1 mX12_act.2.1 mX12_act.2.2.1 mX12_act.2.2.2 ∈ jg_ws := (jg_m9 78 rfl rfl)
set_option maxRecDepth 20000 in
theorem wn_X12_act : Cond.instanceMethod yX12_act ∈ jg_ws := (jg_m9 76 rfl rfl)
set_option maxRecDepth 20000 in
theorem we_X12_act : Cond.selects yX12_act.cls yX12_act yX12_act ∈ jg_ws := (jg_m9 77 rfl rfl)
set_option maxRecDepth 20000 in
theorem wc_X12_uses : Cond.code mX12_uses.1 mX12_uses.2.1 mX12_uses.2.2.1 mX12_uses.2.2.2 ∈ jg_ws := (jg_m9 82 rfl rfl)
set_option maxRecDepth 20000 in
theorem wn_X12_uses : Cond.instanceMethod yX12_uses ∈ jg_ws := (jg_m9 81 rfl rfl)
theorem we_X12_uses : Cond.selects yX12_uses.cls yX12_uses yX12_uses ∈ jg_ws := (jg_memP 74 (by decide +kernel) rfl)
set_option maxRecDepth 20000 in
theorem wc_X12_reads : Cond.code mX12_reads.1 mX12_reads.2.1 mX12_reads.2.2.1 mX12_reads.2.2.2 ∈ jg_ws := (jg_m9 86 rfl rfl)
set_option maxRecDepth 20000 in
theorem wn_X12_reads : Cond.instanceMethod yX12_reads ∈ jg_ws := (jg_m9 85 rfl rfl)
theorem we_X12_reads : Cond.selects yX12_reads.cls yX12_reads yX12_reads ∈ jg_ws := (jg_memP 75 (by decide +kernel) rfl)
set_option maxRecDepth 20000 in
theorem wc_X12_readAll : Cond.code mX12_readAll.1 mX12_readAll.2.1 mX12_readAll.2.2.1 mX12_readAll.2.2.2 ∈ jg_ws := (jg_m9 90 rfl rfl)
set_option maxRecDepth 20000 in
theorem wn_X12_readAll : Cond.instanceMethod yX12_readAll ∈ jg_ws := (jg_m9 89 rfl rfl)
theorem we_X12_readAll : Cond.selects yX12_readAll.cls yX12_readAll yX12_readAll ∈ jg_ws := (jg_memP 76 (by decide +kernel) rfl)
set_option maxRecDepth 20000 in
theorem wc_X12_blanks : Cond.code mX12_blanks.1 mX12_blanks.2.1 mX12_blanks.2.2.1 mX12_blanks.2.2.2 ∈ jg_ws := (jg_m9 94 rfl rfl)
set_option maxRecDepth 20000 in
theorem wn_X12_blanks : Cond.instanceMethod yX12_blanks ∈ jg_ws := (jg_m9 93 rfl rfl)
theorem we_X12_blanks : Cond.selects yX12_blanks.cls yX12_blanks yX12_blanks ∈ jg_ws := (jg_memP 77 (by decide +kernel) rfl)
set_option maxRecDepth 20000 in
theorem wc_X12_isAt : Cond.code mX12_isAt.1 mX12_isAt.2.1 mX12_isAt.2.2.1 mX12_isAt.2.2.2 ∈ jg_ws := (jg_m9 98 rfl rfl)
set_option maxRecDepth 20000 in
theorem wn_X12_isAt : Cond.instanceMethod yX12_isAt ∈ jg_ws := (jg_m9 97 rfl rfl)
theorem we_X12_isAt : Cond.selects yX12_isAt.cls yX12_isAt yX12_isAt ∈ jg_ws := (jg_memP 78 (by decide +kernel) rfl)
set_option maxRecDepth 20000 in
theorem wc_X12_readLine : Cond.code mX12_readLine.1 mX12_readLine.2.1 mX12_readLine.2.2.1 mX12_readLine.2.2.2 ∈ jg_ws := (jg_m9 102 rfl rfl)
set_option maxRecDepth 20000 in
theorem wn_X12_readLine : Cond.instanceMethod yX12_readLine ∈ jg_ws := (jg_m9 101 rfl rfl)
theorem we_X12_readLine : Cond.selects yX12_readLine.cls yX12_readLine yX12_readLine ∈ jg_ws := (jg_memP 79 (by decide +kernel) rfl)
set_option maxRecDepth 20000 in
theorem wc_X12_word : Cond.code mX12_word.1 mX12_word.2.1 mX12_word.2.2.1 mX12_word.2.2.2 ∈ jg_ws := (jg_m9 106 rfl rfl)
set_option maxRecDepth 20000 in
theorem wn_X12_word : Cond.instanceMethod yX12_word ∈ jg_ws := (jg_m9 105 rfl rfl)
theorem we_X12_word : Cond.selects yX12_word.cls yX12_word yX12_word ∈ jg_ws := (jg_memP 80 (by decide +kernel) rfl)
set_option maxRecDepth 20000 in
theorem wc_X12_sortOf : Cond.code mX12_sortOf.1 mX12_sortOf.2.1 mX12_sortOf.2.2.1 mX12_sortOf.2.2.2 ∈ jg_ws := (jg_m9 110 rfl rfl)
set_option maxRecDepth 20000 in
theorem wn_X12_sortOf : Cond.instanceMethod yX12_sortOf ∈ jg_ws := (jg_m9 109 rfl rfl)
theorem we_X12_sortOf : Cond.selects yX12_sortOf.cls yX12_sortOf yX12_sortOf ∈ jg_ws := (jg_memP 81 (by decide +kernel) rfl)
set_option maxRecDepth 20000 in
theorem wc_X12_isWord : Cond.code mX12_isWord.1 mX12_isWord.2.1 mX12_isWord.2.2.1 mX12_isWord.2.2.2 ∈ jg_ws := (jg_m9 115 rfl rfl)
set_option maxRecDepth 20000 in
theorem wn_X12_isWord : Cond.instanceMethod yX12_isWord ∈ jg_ws := (jg_m9 114 rfl rfl)
theorem we_X12_isWord : Cond.selects yX12_isWord.cls yX12_isWord yX12_isWord ∈ jg_ws := (jg_memP 82 (by decide +kernel) rfl)
set_option maxRecDepth 20000 in
theorem wc_X12_readTurn : Cond.code mX12_readTurn.1 mX12_readTurn.2.1 mX12_readTurn.2.2.1 mX12_readTurn.2.2.2 ∈ jg_ws := (jg_m9 128 rfl rfl)
set_option maxRecDepth 20000 in
theorem wn_X12_readTurn : Cond.instanceMethod yX12_readTurn ∈ jg_ws := (jg_m9 127 rfl rfl)
theorem we_X12_readTurn : Cond.selects yX12_readTurn.cls yX12_readTurn yX12_readTurn ∈ jg_ws := (jg_memP 83 (by decide +kernel) rfl)
set_option maxRecDepth 20000 in
theorem wc_X12_passes : Cond.code mX12_passes.1 mX12_passes.2.1 mX12_passes.2.2.1 mX12_passes.2.2.2 ∈ jg_ws := (jg_m9 137 rfl rfl)
set_option maxRecDepth 20000 in
theorem wn_X12_passes : Cond.instanceMethod yX12_passes ∈ jg_ws := (jg_m9 136 rfl rfl)
theorem we_X12_passes : Cond.selects yX12_passes.cls yX12_passes yX12_passes ∈ jg_ws := (jg_memP 84 (by decide +kernel) rfl)
set_option maxRecDepth 20000 in
theorem wc_X12_number : Cond.code mX12_number.1 mX12_number.2.1 mX12_number.2.2.1 mX12_number.2.2.2 ∈ jg_ws := (jg_m9 142 rfl rfl)
set_option maxRecDepth 20000 in
theorem wn_X12_number : Cond.instanceMethod yX12_number ∈ jg_ws := (jg_m9 141 rfl rfl)
theorem we_X12_number : Cond.selects yX12_number.cls yX12_number yX12_number ∈ jg_ws := (jg_memP 85 (by decide +kernel) rfl)
set_option maxRecDepth 20000 in
theorem wc_X12_readCond : Cond.code mX12_readCond.1 mX12_readCond.2.1 mX12_readCond.2.2.1 mX12_readCond.2.2.2 ∈ jg_ws := (jg_m9 147 rfl rfl)
set_option maxRecDepth 20000 in
theorem wn_X12_readCond : Cond.instanceMethod yX12_readCond ∈ jg_ws := (jg_m9 146 rfl rfl)
theorem we_X12_readCond : Cond.selects yX12_readCond.cls yX12_readCond yX12_readCond ∈ jg_ws := (jg_memP 86 (by decide +kernel) rfl)
set_option maxRecDepth 20000 in
theorem wc_X12_readAllOf : Cond.code mX12_readAllOf.1 mX12_readAllOf.2.1 mX12_readAllOf.2.2.1 mX12_readAllOf.2.2.2 ∈ jg_ws := (jg_m9 151 rfl rfl)
set_option maxRecDepth 20000 in
theorem wn_X12_readAllOf : Cond.instanceMethod yX12_readAllOf ∈ jg_ws := (jg_m9 150 rfl rfl)
theorem we_X12_readAllOf : Cond.selects yX12_readAllOf.cls yX12_readAllOf yX12_readAllOf ∈ jg_ws := (jg_memP 87 (by decide +kernel) rfl)
set_option maxRecDepth 20000 in
theorem wc_X12_readAtom : Cond.code mX12_readAtom.1 mX12_readAtom.2.1 mX12_readAtom.2.2.1 mX12_readAtom.2.2.2 ∈ jg_ws := (jg_m9 155 rfl rfl)
set_option maxRecDepth 20000 in
theorem wn_X12_readAtom : Cond.instanceMethod yX12_readAtom ∈ jg_ws := (jg_m9 154 rfl rfl)
theorem we_X12_readAtom : Cond.selects yX12_readAtom.cls yX12_readAtom yX12_readAtom ∈ jg_ws := (jg_memP 88 (by decide +kernel) rfl)
set_option maxRecDepth 20000 in
theorem wc_X12_sign : Cond.code mX12_sign.1 mX12_sign.2.1 mX12_sign.2.2.1 mX12_sign.2.2.2 ∈ jg_ws := (jg_m9 159 rfl rfl)
set_option maxRecDepth 20000 in
theorem wn_X12_sign : Cond.instanceMethod yX12_sign ∈ jg_ws := (jg_m9 158 rfl rfl)
theorem we_X12_sign : Cond.selects yX12_sign.cls yX12_sign yX12_sign ∈ jg_ws := (jg_memP 89 (by decide +kernel) rfl)
set_option maxRecDepth 20000 in
theorem wc_X12_adds : Cond.code mX12_adds.1 mX12_adds.2.1 mX12_adds.2.2.1 mX12_adds.2.2.2 ∈ jg_ws := (jg_m9 164 rfl rfl)
set_option maxRecDepth 20000 in
theorem wn_X12_adds : Cond.instanceMethod yX12_adds ∈ jg_ws := (jg_m9 163 rfl rfl)
theorem we_X12_adds : Cond.selects yX12_adds.cls yX12_adds yX12_adds ∈ jg_ws := (jg_memP 90 (by decide +kernel) rfl)
set_option maxRecDepth 20000 in
theorem wc_X12_wordOf : Cond.code mX12_wordOf.1 mX12_wordOf.2.1 mX12_wordOf.2.2.1 mX12_wordOf.2.2.2 ∈ jg_ws := (jg_m9 168 rfl rfl)
set_option maxRecDepth 20000 in
theorem wn_X12_wordOf : Cond.instanceMethod yX12_wordOf ∈ jg_ws := (jg_m9 167 rfl rfl)
theorem we_X12_wordOf : Cond.selects yX12_wordOf.cls yX12_wordOf yX12_wordOf ∈ jg_ws := (jg_memP 91 (by decide +kernel) rfl)
set_option maxRecDepth 20000 in
theorem wc_X12_factOf : Cond.code mX12_factOf.1 mX12_factOf.2.1 mX12_factOf.2.2.1 mX12_factOf.2.2.2 ∈ jg_ws := (jg_m9 179 rfl rfl)
set_option maxRecDepth 20000 in
theorem wn_X12_factOf : Cond.instanceMethod yX12_factOf ∈ jg_ws := (jg_m9 178 rfl rfl)
theorem we_X12_factOf : Cond.selects yX12_factOf.cls yX12_factOf yX12_factOf ∈ jg_ws := (jg_memP 92 (by decide +kernel) rfl)
set_option maxRecDepth 20000 in
theorem wc_X12_copies : Cond.code mX12_copies.1 mX12_copies.2.1 mX12_copies.2.2.1 mX12_copies.2.2.2 ∈ jg_ws := (jg_m9 188 rfl rfl)
set_option maxRecDepth 20000 in
theorem wn_X12_copies : Cond.instanceMethod yX12_copies ∈ jg_ws := (jg_m9 187 rfl rfl)
theorem we_X12_copies : Cond.selects yX12_copies.cls yX12_copies yX12_copies ∈ jg_ws := (jg_memP 93 (by decide +kernel) rfl)
set_option maxRecDepth 20000 in
theorem wc_X12_judge : Cond.code mX12_judge.1 mX12_judge.2.1 mX12_judge.2.2.1 mX12_judge.2.2.2 ∈ jg_ws := (jg_m9 192 rfl rfl)
set_option maxRecDepth 20000 in
theorem wn_X12_judge : Cond.instanceMethod yX12_judge ∈ jg_ws := (jg_m9 190 rfl rfl)
set_option maxRecDepth 20000 in
theorem we_X12_judge : Cond.selects yX12_judge.cls yX12_judge yX12_judge ∈ jg_ws := (jg_m9 191 rfl rfl)
set_option maxRecDepth 20000 in
theorem wc_X12_firstOf : Cond.code mX12_firstOf.1 mX12_firstOf.2.1 mX12_firstOf.2.2.1 mX12_firstOf.2.2.2 ∈ jg_ws := (jg_m9 196 rfl rfl)
set_option maxRecDepth 20000 in
theorem wn_X12_firstOf : Cond.instanceMethod yX12_firstOf ∈ jg_ws := (jg_m9 195 rfl rfl)
theorem we_X12_firstOf : Cond.selects yX12_firstOf.cls yX12_firstOf yX12_firstOf ∈ jg_ws := (jg_memP 94 (by decide +kernel) rfl)
set_option maxRecDepth 20000 in
theorem wc_X12_mostBack : Cond.code mX12_mostBack.1 mX12_mostBack.2.1 mX12_mostBack.2.2.1 mX12_mostBack.2.2.2 ∈ jg_ws := (jg_m9 200 rfl rfl)
set_option maxRecDepth 20000 in
theorem wn_X12_mostBack : Cond.instanceMethod yX12_mostBack ∈ jg_ws := (jg_m9 199 rfl rfl)
theorem we_X12_mostBack : Cond.selects yX12_mostBack.cls yX12_mostBack yX12_mostBack ∈ jg_ws := (jg_memP 95 (by decide +kernel) rfl)
set_option maxRecDepth 20000 in
theorem wc_X12_back : Cond.code mX12_back.1 mX12_back.2.1 mX12_back.2.2.1 mX12_back.2.2.2 ∈ jg_ws := (jg_m9 204 rfl rfl)
set_option maxRecDepth 20000 in
theorem wn_X12_back : Cond.instanceMethod yX12_back ∈ jg_ws := (jg_m9 202 rfl rfl)
set_option maxRecDepth 20000 in
theorem we_X12_back : Cond.selects yX12_back.cls yX12_back yX12_back ∈ jg_ws := (jg_m9 203 rfl rfl)
set_option maxRecDepth 20000 in
theorem wc_X12_propose : Cond.code mX12_propose.1 mX12_propose.2.1 mX12_propose.2.2.1 mX12_propose.2.2.2 ∈ jg_ws := (jg_m9 209 rfl rfl)
set_option maxRecDepth 20000 in
theorem wn_X12_propose : Cond.instanceMethod yX12_propose ∈ jg_ws := (jg_m9 207 rfl rfl)
set_option maxRecDepth 20000 in
theorem we_X12_propose : Cond.selects yX12_propose.cls yX12_propose yX12_propose ∈ jg_ws := (jg_m9 208 rfl rfl)
set_option maxRecDepth 20000 in
theorem wc_X12_vote : Cond.code mX12_vote.1 mX12_vote.2.1 mX12_vote.2.2.1 mX12_vote.2.2.2 ∈ jg_ws := (jg_m9 213 rfl rfl)
set_option maxRecDepth 20000 in
theorem wn_X12_vote : Cond.instanceMethod yX12_vote ∈ jg_ws := (jg_m9 211 rfl rfl)
set_option maxRecDepth 20000 in
theorem we_X12_vote : Cond.selects yX12_vote.cls yX12_vote yX12_vote ∈ jg_ws := (jg_m9 212 rfl rfl)
set_option maxRecDepth 20000 in
theorem wc_X12_votesOf : Cond.code mX12_votesOf.1 mX12_votesOf.2.1 mX12_votesOf.2.2.1 mX12_votesOf.2.2.2 ∈ jg_ws := (jg_m9 217 rfl rfl)
set_option maxRecDepth 20000 in
theorem wn_X12_votesOf : Cond.instanceMethod yX12_votesOf ∈ jg_ws := (jg_m9 216 rfl rfl)
theorem we_X12_votesOf : Cond.selects yX12_votesOf.cls yX12_votesOf yX12_votesOf ∈ jg_ws := (jg_memP 96 (by decide +kernel) rfl)
set_option maxRecDepth 20000 in
theorem wc_X12_looksAtPayer : Cond.code mX12_looksAtPayer.1 mX12_looksAtPayer.2.1 mX12_looksAtPayer.2.2.1 mX12_looksAtPayer.2.2.2 ∈ jg_ws := (jg_m9 221 rfl rfl)
set_option maxRecDepth 20000 in
theorem wn_X12_looksAtPayer : Cond.instanceMethod yX12_looksAtPayer ∈ jg_ws := (jg_m9 220 rfl rfl)
theorem we_X12_looksAtPayer : Cond.selects yX12_looksAtPayer.cls yX12_looksAtPayer yX12_looksAtPayer ∈ jg_ws := (jg_memP 97 (by decide +kernel) rfl)
set_option maxRecDepth 20000 in
theorem wc_X12_close : Cond.code mX12_close.1 mX12_close.2.1 mX12_close.2.2.1 mX12_close.2.2.2 ∈ jg_ws := (jg_m9 225 rfl rfl)
set_option maxRecDepth 20000 in
theorem wn_X12_close : Cond.instanceMethod yX12_close ∈ jg_ws := (jg_m9 223 rfl rfl)
set_option maxRecDepth 20000 in
theorem we_X12_close : Cond.selects yX12_close.cls yX12_close yX12_close ∈ jg_ws := (jg_m9 224 rfl rfl)
set_option maxRecDepth 20000 in
theorem wc_X12_pays : Cond.code mX12_pays.1 mX12_pays.2.1 mX12_pays.2.2.1 mX12_pays.2.2.2 ∈ jg_ws := (jg_m9 229 rfl rfl)
set_option maxRecDepth 20000 in
theorem wn_X12_pays : Cond.instanceMethod yX12_pays ∈ jg_ws := (jg_m9 227 rfl rfl)
set_option maxRecDepth 20000 in
theorem we_X12_pays : Cond.selects yX12_pays.cls yX12_pays yX12_pays ∈ jg_ws := (jg_m9 228 rfl rfl)
set_option maxRecDepth 20000 in
theorem wc_X12_cash : Cond.code mX12_cash.1 mX12_cash.2.1 mX12_cash.2.2.1 mX12_cash.2.2.2 ∈ jg_ws := (jg_m9 233 rfl rfl)
set_option maxRecDepth 20000 in
theorem wn_X12_cash : Cond.instanceMethod yX12_cash ∈ jg_ws := (jg_m9 231 rfl rfl)
set_option maxRecDepth 20000 in
theorem we_X12_cash : Cond.selects yX12_cash.cls yX12_cash yX12_cash ∈ jg_ws := (jg_m9 232 rfl rfl)
set_option maxRecDepth 20000 in
theorem wc_X12_bond : Cond.code mX12_bond.1 mX12_bond.2.1 mX12_bond.2.2.1 mX12_bond.2.2.2 ∈ jg_ws := (jg_m9 237 rfl rfl)
set_option maxRecDepth 20000 in
theorem wn_X12_bond : Cond.instanceMethod yX12_bond ∈ jg_ws := (jg_m9 235 rfl rfl)
set_option maxRecDepth 20000 in
theorem we_X12_bond : Cond.selects yX12_bond.cls yX12_bond yX12_bond ∈ jg_ws := (jg_m9 236 rfl rfl)
set_option maxRecDepth 20000 in
theorem wc_X12_isOver : Cond.code mX12_isOver.1 mX12_isOver.2.1 mX12_isOver.2.2.1 mX12_isOver.2.2.2 ∈ jg_ws := (jg_m10 1 rfl rfl)
set_option maxRecDepth 20000 in
theorem wn_X12_isOver : Cond.instanceMethod yX12_isOver ∈ jg_ws := (jg_m10 0 rfl rfl)
theorem we_X12_isOver : Cond.selects yX12_isOver.cls yX12_isOver yX12_isOver ∈ jg_ws := (jg_memP 98 (by decide +kernel) rfl)
set_option maxRecDepth 20000 in
theorem wc_X12_owes : Cond.code mX12_owes.1 mX12_owes.2.1 mX12_owes.2.2.1 mX12_owes.2.2.2 ∈ jg_ws := (jg_m10 5 rfl rfl)
set_option maxRecDepth 20000 in
theorem wn_X12_owes : Cond.instanceMethod yX12_owes ∈ jg_ws := (jg_m10 3 rfl rfl)
set_option maxRecDepth 20000 in
theorem we_X12_owes : Cond.selects yX12_owes.cls yX12_owes yX12_owes ∈ jg_ws := (jg_m10 4 rfl rfl)
set_option maxRecDepth 20000 in
theorem wc_X12_bring : Cond.code mX12_bring.1 mX12_bring.2.1 mX12_bring.2.2.1 mX12_bring.2.2.2 ∈ jg_ws := (jg_m10 9 rfl rfl)
set_option maxRecDepth 20000 in
theorem wn_X12_bring : Cond.instanceMethod yX12_bring ∈ jg_ws := (jg_m10 7 rfl rfl)
set_option maxRecDepth 20000 in
theorem we_X12_bring : Cond.selects yX12_bring.cls yX12_bring yX12_bring ∈ jg_ws := (jg_m10 8 rfl rfl)
set_option maxRecDepth 20000 in
theorem wc_X12_brings : Cond.code mX12_brings.1 mX12_brings.2.1 mX12_brings.2.2.1 mX12_brings.2.2.2 ∈ jg_ws := (jg_m10 13 rfl rfl)
set_option maxRecDepth 20000 in
theorem wn_X12_brings : Cond.instanceMethod yX12_brings ∈ jg_ws := (jg_m10 12 rfl rfl)
theorem we_X12_brings : Cond.selects yX12_brings.cls yX12_brings yX12_brings ∈ jg_ws := (jg_memP 99 (by decide +kernel) rfl)
set_option maxRecDepth 20000 in
theorem wc_X12_work : Cond.code mX12_work.1 mX12_work.2.1 mX12_work.2.2.1 mX12_work.2.2.2 ∈ jg_ws := (jg_m10 17 rfl rfl)
set_option maxRecDepth 20000 in
theorem wn_X12_work : Cond.instanceMethod yX12_work ∈ jg_ws := (jg_m10 15 rfl rfl)
set_option maxRecDepth 20000 in
theorem we_X12_work : Cond.selects yX12_work.cls yX12_work yX12_work ∈ jg_ws := (jg_m10 16 rfl rfl)
set_option maxRecDepth 20000 in
theorem wc_X12_worth : Cond.code mX12_worth.1 mX12_worth.2.1 mX12_worth.2.2.1 mX12_worth.2.2.2 ∈ jg_ws := (jg_m10 22 rfl rfl)
set_option maxRecDepth 20000 in
theorem wn_X12_worth : Cond.instanceMethod yX12_worth ∈ jg_ws := (jg_m10 20 rfl rfl)
set_option maxRecDepth 20000 in
theorem we_X12_worth : Cond.selects yX12_worth.cls yX12_worth yX12_worth ∈ jg_ws := (jg_m10 21 rfl rfl)
set_option maxRecDepth 20000 in
theorem wc_X12_worthOf : Cond.code mX12_worthOf.1 mX12_worthOf.2.1 mX12_worthOf.2.2.1 mX12_worthOf.2.2.2 ∈ jg_ws := (jg_m10 26 rfl rfl)
set_option maxRecDepth 20000 in
theorem wn_X12_worthOf : Cond.instanceMethod yX12_worthOf ∈ jg_ws := (jg_m10 25 rfl rfl)
theorem we_X12_worthOf : Cond.selects yX12_worthOf.cls yX12_worthOf yX12_worthOf ∈ jg_ws := (jg_memP 100 (by decide +kernel) rfl)
set_option maxRecDepth 20000 in
theorem wc_X12_best : Cond.code mX12_best.1 mX12_best.2.1 mX12_best.2.2.1 mX12_best.2.2.2 ∈ jg_ws := (jg_m10 30 rfl rfl)
set_option maxRecDepth 20000 in
theorem wn_X12_best : Cond.instanceMethod yX12_best ∈ jg_ws := (jg_m10 28 rfl rfl)
set_option maxRecDepth 20000 in
theorem we_X12_best : Cond.selects yX12_best.cls yX12_best yX12_best ∈ jg_ws := (jg_m10 29 rfl rfl)
set_option maxRecDepth 20000 in
theorem wc_X12_another : Cond.code mX12_another.1 mX12_another.2.1 mX12_another.2.2.1 mX12_another.2.2.2 ∈ jg_ws := (jg_m10 35 rfl rfl)
set_option maxRecDepth 20000 in
theorem wn_X12_another : Cond.instanceMethod yX12_another ∈ jg_ws := (jg_m10 33 rfl rfl)
set_option maxRecDepth 20000 in
theorem we_X12_another : Cond.selects yX12_another.cls yX12_another yX12_another ∈ jg_ws := (jg_m10 34 rfl rfl)
set_option maxRecDepth 20000 in
theorem wc_X12_count : Cond.code mX12_count.1 mX12_count.2.1 mX12_count.2.2.1 mX12_count.2.2.2 ∈ jg_ws := (jg_m10 39 rfl rfl)
set_option maxRecDepth 20000 in
theorem wn_X12_count : Cond.instanceMethod yX12_count ∈ jg_ws := (jg_m10 37 rfl rfl)
set_option maxRecDepth 20000 in
theorem we_X12_count : Cond.selects yX12_count.cls yX12_count yX12_count ∈ jg_ws := (jg_m10 38 rfl rfl)
set_option maxRecDepth 20000 in
theorem wc_X12_sumCells : Cond.code mX12_sumCells.1 mX12_sumCells.2.1 mX12_sumCells.2.2.1 mX12_sumCells.2.2.2 ∈ jg_ws := (jg_m10 43 rfl rfl)
set_option maxRecDepth 20000 in
theorem wn_X12_sumCells : Cond.instanceMethod yX12_sumCells ∈ jg_ws := (jg_m10 42 rfl rfl)
theorem we_X12_sumCells : Cond.selects yX12_sumCells.cls yX12_sumCells yX12_sumCells ∈ jg_ws := (jg_memP 101 (by decide +kernel) rfl)
set_option maxRecDepth 20000 in
theorem wi_X6 : Cond.initialized RX6 ∈ jg_ws := (jg_m1 12 rfl rfl)
set_option maxRecDepth 20000 in
theorem wi_J6 : Cond.initialized RJ6 ∈ jg_ws := (jg_m1 29 rfl rfl)
set_option maxRecDepth 20000 in
theorem wi_X4 : Cond.initialized RX4 ∈ jg_ws := (jg_m1 13 rfl rfl)
set_option maxRecDepth 20000 in
theorem wi_X10 : Cond.initialized RX10 ∈ jg_ws := (jg_m1 6 rfl rfl)
set_option maxRecDepth 20000 in
theorem wi_X7 : Cond.initialized RX7 ∈ jg_ws := (jg_m1 2 rfl rfl)
set_option maxRecDepth 20000 in
theorem wi_L : Cond.initialized RL ∈ jg_ws := (jg_m1 0 rfl rfl)
set_option maxRecDepth 20000 in
theorem wi_J7 : Cond.initialized RJ7 ∈ jg_ws := (jg_m1 5 rfl rfl)
set_option maxRecDepth 20000 in
theorem wi_X9 : Cond.initialized RX9 ∈ jg_ws := (jg_m1 11 rfl rfl)
set_option maxRecDepth 20000 in
theorem wi_J9 : Cond.initialized RJ9 ∈ jg_ws := (jg_m1 23 rfl rfl)
set_option maxRecDepth 20000 in
theorem wi_J0 : Cond.initialized RJ0 ∈ jg_ws := (jg_m1 24 rfl rfl)
set_option maxRecDepth 20000 in
theorem wi_X2 : Cond.initialized RX2 ∈ jg_ws := (jg_m1 3 rfl rfl)
set_option maxRecDepth 20000 in
theorem wi_X11 : Cond.initialized RX11 ∈ jg_ws := (jg_m1 1 rfl rfl)
set_option maxRecDepth 20000 in
theorem wi_X8 : Cond.initialized RX8 ∈ jg_ws := (jg_m1 4 rfl rfl)
set_option maxRecDepth 20000 in
theorem wi_X3 : Cond.initialized RX3 ∈ jg_ws := (jg_m1 7 rfl rfl)
set_option maxRecDepth 20000 in
theorem wi_X12 : Cond.initialized RX12 ∈ jg_ws := (jg_m1 14 rfl rfl)
set_option maxRecDepth 20000 in
theorem wi_J10 : Cond.initialized RJ10 ∈ jg_ws := (jg_m1 28 rfl rfl)
set_option maxRecDepth 20000 in
theorem wi_J1 : Cond.initialized RJ1 ∈ jg_ws := (jg_m1 25 rfl rfl)
set_option maxRecDepth 20000 in
theorem wi_J3 : Cond.initialized RJ3 ∈ jg_ws := (jg_m1 26 rfl rfl)
set_option maxRecDepth 20000 in
theorem wi_X1 : Cond.initialized RX1 ∈ jg_ws := (jg_m1 10 rfl rfl)
set_option maxRecDepth 20000 in
theorem wi_X0 : Cond.initialized RX0 ∈ jg_ws := (jg_m1 8 rfl rfl)
set_option maxRecDepth 20000 in
theorem wi_X5 : Cond.initialized RX5 ∈ jg_ws := (jg_m1 9 rfl rfl)
set_option maxRecDepth 20000 in
theorem wi_J2 : Cond.initialized RJ2 ∈ jg_ws := (jg_m1 27 rfl rfl)
set_option maxRecDepth 20000 in
theorem wn_obj : Cond.instanceMethod objectInit ∈ jg_ws := (jg_m1 36 rfl rfl)
set_option maxRecDepth 20000 in
theorem wc_obj : Cond.code objectInit ⟨#[0xb1]⟩ 1 none ∈ jg_ws := (jg_m1 37 rfl rfl)
set_option maxRecDepth 20000 in
theorem jl_X0 : ∀ w ∈ u_ws RX0 TX0 6, w ∈ jg_ws := by
  intro w hw
  obtain ⟨k, hk, rfl⟩ := List.mem_map.mp hw
  have hk := List.mem_range.mp hk
  match k, hk with
  | 0, _ => exact (jg_m1 200 rfl rfl)
  | 1, _ => exact (jg_m1 202 rfl rfl)
  | 2, _ => exact (jg_m1 204 rfl rfl)
  | 3, _ => exact (jg_m1 206 rfl rfl)
  | 4, _ => exact (jg_m1 208 rfl rfl)
  | 5, _ => exact (jg_m1 210 rfl rfl)
  | k + 6, hk => exact absurd hk (by omega)
theorem jc_X0 : jg_Cl 0 RX0 TX0 6 tyX0 := ⟨rfl, jl_X0, tyX0_ok, nmX0⟩
set_option maxRecDepth 20000 in
theorem jl_X1 : ∀ w ∈ u_ws RX1 TX1 9, w ∈ jg_ws := by
  intro w hw
  obtain ⟨k, hk, rfl⟩ := List.mem_map.mp hw
  have hk := List.mem_range.mp hk
  match k, hk with
  | 0, _ => exact (jg_m2 52 rfl rfl)
  | 1, _ => exact (jg_m2 54 rfl rfl)
  | 2, _ => exact (jg_m2 56 rfl rfl)
  | 3, _ => exact (jg_m2 58 rfl rfl)
  | 4, _ => exact (jg_m2 60 rfl rfl)
  | 5, _ => exact (jg_m2 62 rfl rfl)
  | 6, _ => exact (jg_m2 64 rfl rfl)
  | 7, _ => exact (jg_m2 66 rfl rfl)
  | 8, _ => exact (jg_m2 68 rfl rfl)
  | k + 9, hk => exact absurd hk (by omega)
theorem jc_X1 : jg_Cl 1 RX1 TX1 9 tyX1 := ⟨rfl, jl_X1, tyX1_ok, nmX1⟩
set_option maxRecDepth 20000 in
theorem jl_X2 : ∀ w ∈ u_ws RX2 TX2 10, w ∈ jg_ws := by
  intro w hw
  obtain ⟨k, hk, rfl⟩ := List.mem_map.mp hw
  have hk := List.mem_range.mp hk
  match k, hk with
  | 0, _ => exact (jg_m3 101 rfl rfl)
  | 1, _ => exact (jg_m3 103 rfl rfl)
  | 2, _ => exact (jg_m3 105 rfl rfl)
  | 3, _ => exact (jg_m3 107 rfl rfl)
  | 4, _ => exact (jg_m3 109 rfl rfl)
  | 5, _ => exact (jg_m3 111 rfl rfl)
  | 6, _ => exact (jg_m3 113 rfl rfl)
  | 7, _ => exact (jg_m3 115 rfl rfl)
  | 8, _ => exact (jg_m3 117 rfl rfl)
  | 9, _ => exact (jg_m3 119 rfl rfl)
  | k + 10, hk => exact absurd hk (by omega)
theorem jc_X2 : jg_Cl 2 RX2 TX2 10 tyX2 := ⟨rfl, jl_X2, tyX2_ok, nmX2⟩
set_option maxRecDepth 20000 in
theorem jl_X3 : ∀ w ∈ u_ws RX3 TX3 10, w ∈ jg_ws := by
  intro w hw
  obtain ⟨k, hk, rfl⟩ := List.mem_map.mp hw
  have hk := List.mem_range.mp hk
  match k, hk with
  | 0, _ => exact (jg_m1 227 rfl rfl)
  | 1, _ => exact (jg_m1 229 rfl rfl)
  | 2, _ => exact (jg_m1 231 rfl rfl)
  | 3, _ => exact (jg_m1 233 rfl rfl)
  | 4, _ => exact (jg_m1 235 rfl rfl)
  | 5, _ => exact (jg_m1 237 rfl rfl)
  | 6, _ => exact (jg_m1 239 rfl rfl)
  | 7, _ => exact (jg_m2 1 rfl rfl)
  | 8, _ => exact (jg_m2 3 rfl rfl)
  | 9, _ => exact (jg_m2 5 rfl rfl)
  | k + 10, hk => exact absurd hk (by omega)
theorem jc_X3 : jg_Cl 3 RX3 TX3 10 tyX3 := ⟨rfl, jl_X3, tyX3_ok, nmX3⟩
set_option maxRecDepth 20000 in
theorem jl_X4 : ∀ w ∈ u_ws RX4 TX4 12, w ∈ jg_ws := by
  intro w hw
  obtain ⟨k, hk, rfl⟩ := List.mem_map.mp hw
  have hk := List.mem_range.mp hk
  match k, hk with
  | 0, _ => exact (jg_m3 58 rfl rfl)
  | 1, _ => exact (jg_m3 60 rfl rfl)
  | 2, _ => exact (jg_m3 62 rfl rfl)
  | 3, _ => exact (jg_m3 64 rfl rfl)
  | 4, _ => exact (jg_m3 66 rfl rfl)
  | 5, _ => exact (jg_m3 68 rfl rfl)
  | 6, _ => exact (jg_m3 70 rfl rfl)
  | 7, _ => exact (jg_m3 72 rfl rfl)
  | 8, _ => exact (jg_m3 74 rfl rfl)
  | 9, _ => exact (jg_m3 76 rfl rfl)
  | 10, _ => exact (jg_m3 78 rfl rfl)
  | 11, _ => exact (jg_m3 80 rfl rfl)
  | k + 12, hk => exact absurd hk (by omega)
theorem jc_X4 : jg_Cl 4 RX4 TX4 12 tyX4 := ⟨rfl, jl_X4, tyX4_ok, nmX4⟩
set_option maxRecDepth 20000 in
theorem jl_X5 : ∀ w ∈ u_ws RX5 TX5 8, w ∈ jg_ws := by
  intro w hw
  obtain ⟨k, hk, rfl⟩ := List.mem_map.mp hw
  have hk := List.mem_range.mp hk
  match k, hk with
  | 0, _ => exact (jg_m2 197 rfl rfl)
  | 1, _ => exact (jg_m2 199 rfl rfl)
  | 2, _ => exact (jg_m2 201 rfl rfl)
  | 3, _ => exact (jg_m2 203 rfl rfl)
  | 4, _ => exact (jg_m2 205 rfl rfl)
  | 5, _ => exact (jg_m2 207 rfl rfl)
  | 6, _ => exact (jg_m2 209 rfl rfl)
  | 7, _ => exact (jg_m2 211 rfl rfl)
  | k + 8, hk => exact absurd hk (by omega)
theorem jc_X5 : jg_Cl 5 RX5 TX5 8 tyX5 := ⟨rfl, jl_X5, tyX5_ok, nmX5⟩
set_option maxRecDepth 20000 in
theorem jl_X6 : ∀ w ∈ u_ws RX6 TX6 14, w ∈ jg_ws := by
  intro w hw
  obtain ⟨k, hk, rfl⟩ := List.mem_map.mp hw
  have hk := List.mem_range.mp hk
  match k, hk with
  | 0, _ => exact (jg_m3 8 rfl rfl)
  | 1, _ => exact (jg_m3 10 rfl rfl)
  | 2, _ => exact (jg_m3 12 rfl rfl)
  | 3, _ => exact (jg_m3 14 rfl rfl)
  | 4, _ => exact (jg_m3 16 rfl rfl)
  | 5, _ => exact (jg_m3 18 rfl rfl)
  | 6, _ => exact (jg_m3 20 rfl rfl)
  | 7, _ => exact (jg_m3 22 rfl rfl)
  | 8, _ => exact (jg_m3 24 rfl rfl)
  | 9, _ => exact (jg_m3 26 rfl rfl)
  | 10, _ => exact (jg_m3 28 rfl rfl)
  | 11, _ => exact (jg_m3 30 rfl rfl)
  | 12, _ => exact (jg_m3 32 rfl rfl)
  | 13, _ => exact (jg_m3 34 rfl rfl)
  | k + 14, hk => exact absurd hk (by omega)
theorem jc_X6 : jg_Cl 6 RX6 TX6 14 tyX6 := ⟨rfl, jl_X6, tyX6_ok, nmX6⟩
set_option maxRecDepth 20000 in
theorem jl_X7 : ∀ w ∈ u_ws RX7 TX7 12, w ∈ jg_ws := by
  intro w hw
  obtain ⟨k, hk, rfl⟩ := List.mem_map.mp hw
  have hk := List.mem_range.mp hk
  match k, hk with
  | 0, _ => exact (jg_m1 57 rfl rfl)
  | 1, _ => exact (jg_m1 59 rfl rfl)
  | 2, _ => exact (jg_m1 61 rfl rfl)
  | 3, _ => exact (jg_m1 63 rfl rfl)
  | 4, _ => exact (jg_m1 65 rfl rfl)
  | 5, _ => exact (jg_m1 67 rfl rfl)
  | 6, _ => exact (jg_m1 69 rfl rfl)
  | 7, _ => exact (jg_m1 71 rfl rfl)
  | 8, _ => exact (jg_m1 73 rfl rfl)
  | 9, _ => exact (jg_m1 75 rfl rfl)
  | 10, _ => exact (jg_m1 77 rfl rfl)
  | 11, _ => exact (jg_m1 79 rfl rfl)
  | k + 12, hk => exact absurd hk (by omega)
theorem jc_X7 : jg_Cl 7 RX7 TX7 12 tyX7 := ⟨rfl, jl_X7, tyX7_ok, nmX7⟩
set_option maxRecDepth 20000 in
theorem jl_X8 : ∀ w ∈ u_ws RX8 TX8 14, w ∈ jg_ws := by
  intro w hw
  obtain ⟨k, hk, rfl⟩ := List.mem_map.mp hw
  have hk := List.mem_range.mp hk
  match k, hk with
  | 0, _ => exact (jg_m1 123 rfl rfl)
  | 1, _ => exact (jg_m1 125 rfl rfl)
  | 2, _ => exact (jg_m1 127 rfl rfl)
  | 3, _ => exact (jg_m1 129 rfl rfl)
  | 4, _ => exact (jg_m1 131 rfl rfl)
  | 5, _ => exact (jg_m1 133 rfl rfl)
  | 6, _ => exact (jg_m1 135 rfl rfl)
  | 7, _ => exact (jg_m1 137 rfl rfl)
  | 8, _ => exact (jg_m1 139 rfl rfl)
  | 9, _ => exact (jg_m1 141 rfl rfl)
  | 10, _ => exact (jg_m1 143 rfl rfl)
  | 11, _ => exact (jg_m1 145 rfl rfl)
  | 12, _ => exact (jg_m1 147 rfl rfl)
  | 13, _ => exact (jg_m1 149 rfl rfl)
  | k + 14, hk => exact absurd hk (by omega)
theorem jc_X8 : jg_Cl 8 RX8 TX8 14 tyX8 := ⟨rfl, jl_X8, tyX8_ok, nmX8⟩
set_option maxRecDepth 20000 in
theorem jl_X9 : ∀ w ∈ u_ws RX9 TX9 19, w ∈ jg_ws := by
  intro w hw
  obtain ⟨k, hk, rfl⟩ := List.mem_map.mp hw
  have hk := List.mem_range.mp hk
  match k, hk with
  | 0, _ => exact (jg_m2 139 rfl rfl)
  | 1, _ => exact (jg_m2 141 rfl rfl)
  | 2, _ => exact (jg_m2 143 rfl rfl)
  | 3, _ => exact (jg_m2 145 rfl rfl)
  | 4, _ => exact (jg_m2 147 rfl rfl)
  | 5, _ => exact (jg_m2 149 rfl rfl)
  | 6, _ => exact (jg_m2 151 rfl rfl)
  | 7, _ => exact (jg_m2 153 rfl rfl)
  | 8, _ => exact (jg_m2 155 rfl rfl)
  | 9, _ => exact (jg_m2 157 rfl rfl)
  | 10, _ => exact (jg_m2 159 rfl rfl)
  | 11, _ => exact (jg_m2 161 rfl rfl)
  | 12, _ => exact (jg_m2 163 rfl rfl)
  | 13, _ => exact (jg_m2 165 rfl rfl)
  | 14, _ => exact (jg_m2 167 rfl rfl)
  | 15, _ => exact (jg_m2 169 rfl rfl)
  | 16, _ => exact (jg_m2 171 rfl rfl)
  | 17, _ => exact (jg_m2 173 rfl rfl)
  | 18, _ => exact (jg_m2 175 rfl rfl)
  | k + 19, hk => exact absurd hk (by omega)
theorem jc_X9 : jg_Cl 9 RX9 TX9 19 tyX9 := ⟨rfl, jl_X9, tyX9_ok, nmX9⟩
set_option maxRecDepth 20000 in
theorem jl_X10 : ∀ w ∈ u_ws RX10 TX10 6, w ∈ jg_ws := by
  intro w hw
  obtain ⟨k, hk, rfl⟩ := List.mem_map.mp hw
  have hk := List.mem_range.mp hk
  match k, hk with
  | 0, _ => exact (jg_m1 168 rfl rfl)
  | 1, _ => exact (jg_m1 170 rfl rfl)
  | 2, _ => exact (jg_m1 172 rfl rfl)
  | 3, _ => exact (jg_m1 174 rfl rfl)
  | 4, _ => exact (jg_m1 176 rfl rfl)
  | 5, _ => exact (jg_m1 178 rfl rfl)
  | k + 6, hk => exact absurd hk (by omega)
theorem jc_X10 : jg_Cl 10 RX10 TX10 6 tyX10 := ⟨rfl, jl_X10, tyX10_ok, nmX10⟩
set_option maxRecDepth 20000 in
theorem jl_X11 : ∀ w ∈ u_ws RX11 TX11 5, w ∈ jg_ws := by
  intro w hw
  obtain ⟨k, hk, rfl⟩ := List.mem_map.mp hw
  have hk := List.mem_range.mp hk
  match k, hk with
  | 0, _ => exact (jg_m3 127 rfl rfl)
  | 1, _ => exact (jg_m3 129 rfl rfl)
  | 2, _ => exact (jg_m3 131 rfl rfl)
  | 3, _ => exact (jg_m3 133 rfl rfl)
  | 4, _ => exact (jg_m3 135 rfl rfl)
  | k + 5, hk => exact absurd hk (by omega)
theorem jc_X11 : jg_Cl 11 RX11 TX11 5 tyX11 := ⟨rfl, jl_X11, tyX11_ok, nmX11⟩
set_option maxRecDepth 20000 in
theorem jl_X12 : ∀ w ∈ u_ws RX12 TX12 23, w ∈ jg_ws := by
  intro w hw
  obtain ⟨k, hk, rfl⟩ := List.mem_map.mp hw
  have hk := List.mem_range.mp hk
  match k, hk with
  | 0, _ => exact (jg_m7 226 rfl rfl)
  | 1, _ => exact (jg_m7 228 rfl rfl)
  | 2, _ => exact (jg_m7 230 rfl rfl)
  | 3, _ => exact (jg_m7 232 rfl rfl)
  | 4, _ => exact (jg_m7 234 rfl rfl)
  | 5, _ => exact (jg_m7 236 rfl rfl)
  | 6, _ => exact (jg_m7 238 rfl rfl)
  | 7, _ => exact (jg_m8 0 rfl rfl)
  | 8, _ => exact (jg_m8 2 rfl rfl)
  | 9, _ => exact (jg_m8 4 rfl rfl)
  | 10, _ => exact (jg_m8 6 rfl rfl)
  | 11, _ => exact (jg_m8 8 rfl rfl)
  | 12, _ => exact (jg_m8 10 rfl rfl)
  | 13, _ => exact (jg_m8 12 rfl rfl)
  | 14, _ => exact (jg_m8 14 rfl rfl)
  | 15, _ => exact (jg_m8 16 rfl rfl)
  | 16, _ => exact (jg_m8 18 rfl rfl)
  | 17, _ => exact (jg_m8 20 rfl rfl)
  | 18, _ => exact (jg_m8 22 rfl rfl)
  | 19, _ => exact (jg_m8 24 rfl rfl)
  | 20, _ => exact (jg_m8 26 rfl rfl)
  | 21, _ => exact (jg_m8 28 rfl rfl)
  | 22, _ => exact (jg_m8 30 rfl rfl)
  | k + 23, hk => exact absurd hk (by omega)
theorem jc_X12 : jg_Cl 12 RX12 TX12 23 tyX12 := ⟨rfl, jl_X12, tyX12_ok, nmX12⟩
set_option maxRecDepth 20000 in
theorem fl_X7_9 : jg_F RX7 9 7 0 .int false := ⟨RX7, TX7, 12, tyX7, jc_X7, by decide, (jg_m1 44 rfl rfl), rfl, rfl, rfl⟩
set_option maxRecDepth 20000 in
theorem fl_X11_305 : jg_F RX11 305 7 0 .int false := ⟨RX7, TX7, 12, tyX7, jc_X7, by decide, (jg_m1 45 rfl rfl), rfl, rfl, rfl⟩
set_option maxRecDepth 20000 in
theorem fl_X7_15 : jg_F RX7 15 7 1 (.array .int) true := ⟨RX7, TX7, 12, tyX7, jc_X7, by decide, (jg_m1 46 rfl rfl), rfl, rfl, rfl⟩
set_option maxRecDepth 20000 in
theorem fl_X7_19 : jg_F RX7 19 7 2 (.array .int) true := ⟨RX7, TX7, 12, tyX7, jc_X7, by decide, (jg_m1 47 rfl rfl), rfl, rfl, rfl⟩
set_option maxRecDepth 20000 in
theorem fl_X7_64 : jg_F RX7 64 7 3 .int false := ⟨RX7, TX7, 12, tyX7, jc_X7, by decide, (jg_m1 48 rfl rfl), rfl, rfl, rfl⟩
set_option maxRecDepth 20000 in
theorem fl_X7_47 : jg_F RX7 47 7 4 .int false := ⟨RX7, TX7, 12, tyX7, jc_X7, by decide, (jg_m1 49 rfl rfl), rfl, rfl, rfl⟩
set_option maxRecDepth 20000 in
theorem fl_X7_22 : jg_F RX7 22 7 5 (.array .int) true := ⟨RX7, TX7, 12, tyX7, jc_X7, by decide, (jg_m1 50 rfl rfl), rfl, rfl, rfl⟩
set_option maxRecDepth 20000 in
theorem fl_X7_25 : jg_F RX7 25 7 6 (.array .int) true := ⟨RX7, TX7, 12, tyX7, jc_X7, by decide, (jg_m1 51 rfl rfl), rfl, rfl, rfl⟩
set_option maxRecDepth 20000 in
theorem fl_X7_28 : jg_F RX7 28 7 7 (.array .int) true := ⟨RX7, TX7, 12, tyX7, jc_X7, by decide, (jg_m1 52 rfl rfl), rfl, rfl, rfl⟩
set_option maxRecDepth 20000 in
theorem fl_X7_50 : jg_F RX7 50 7 8 .int false := ⟨RX7, TX7, 12, tyX7, jc_X7, by decide, (jg_m1 53 rfl rfl), rfl, rfl, rfl⟩
set_option maxRecDepth 20000 in
theorem fl_X7_31 : jg_F RX7 31 7 9 (.array .int) true := ⟨RX7, TX7, 12, tyX7, jc_X7, by decide, (jg_m1 54 rfl rfl), rfl, rfl, rfl⟩
set_option maxRecDepth 20000 in
theorem fl_X7_34 : jg_F RX7 34 7 10 (.array .int) true := ⟨RX7, TX7, 12, tyX7, jc_X7, by decide, (jg_m1 55 rfl rfl), rfl, rfl, rfl⟩
set_option maxRecDepth 20000 in
theorem fl_X7_53 : jg_F RX7 53 7 11 .int false := ⟨RX7, TX7, 12, tyX7, jc_X7, by decide, (jg_m1 56 rfl rfl), rfl, rfl, rfl⟩
set_option maxRecDepth 20000 in
theorem fl_X8_9 : jg_F RX8 9 8 0 (.array .int) true := ⟨RX8, TX8, 14, tyX8, jc_X8, by decide, (jg_m1 99 rfl rfl), rfl, rfl, rfl⟩
set_option maxRecDepth 20000 in
theorem fl_X11_59 : jg_F RX11 59 8 0 (.array .int) true := ⟨RX8, TX8, 14, tyX8, jc_X8, by decide, (jg_m1 100 rfl rfl), rfl, rfl, rfl⟩
set_option maxRecDepth 20000 in
theorem fl_X2_189 : jg_F RX2 189 8 0 (.array .int) true := ⟨RX8, TX8, 14, tyX8, jc_X8, by decide, (jg_m1 101 rfl rfl), rfl, rfl, rfl⟩
set_option maxRecDepth 20000 in
theorem fl_X8_15 : jg_F RX8 15 8 1 (.array .int) true := ⟨RX8, TX8, 14, tyX8, jc_X8, by decide, (jg_m1 102 rfl rfl), rfl, rfl, rfl⟩
set_option maxRecDepth 20000 in
theorem fl_X11_65 : jg_F RX11 65 8 1 (.array .int) true := ⟨RX8, TX8, 14, tyX8, jc_X8, by decide, (jg_m1 103 rfl rfl), rfl, rfl, rfl⟩
set_option maxRecDepth 20000 in
theorem fl_X2_146 : jg_F RX2 146 8 1 (.array .int) true := ⟨RX8, TX8, 14, tyX8, jc_X8, by decide, (jg_m1 104 rfl rfl), rfl, rfl, rfl⟩
set_option maxRecDepth 20000 in
theorem fl_X8_18 : jg_F RX8 18 8 2 (.array .int) true := ⟨RX8, TX8, 14, tyX8, jc_X8, by decide, (jg_m1 105 rfl rfl), rfl, rfl, rfl⟩
set_option maxRecDepth 20000 in
theorem fl_X11_99 : jg_F RX11 99 8 2 (.array .int) true := ⟨RX8, TX8, 14, tyX8, jc_X8, by decide, (jg_m1 106 rfl rfl), rfl, rfl, rfl⟩
set_option maxRecDepth 20000 in
theorem fl_X8_21 : jg_F RX8 21 8 3 (.array .int) true := ⟨RX8, TX8, 14, tyX8, jc_X8, by decide, (jg_m1 107 rfl rfl), rfl, rfl, rfl⟩
set_option maxRecDepth 20000 in
theorem fl_X11_68 : jg_F RX11 68 8 3 (.array .int) true := ⟨RX8, TX8, 14, tyX8, jc_X8, by decide, (jg_m1 108 rfl rfl), rfl, rfl, rfl⟩
set_option maxRecDepth 20000 in
theorem fl_X8_24 : jg_F RX8 24 8 4 (.array .int) true := ⟨RX8, TX8, 14, tyX8, jc_X8, by decide, (jg_m1 109 rfl rfl), rfl, rfl, rfl⟩
set_option maxRecDepth 20000 in
theorem fl_X8_27 : jg_F RX8 27 8 5 (.array .int) true := ⟨RX8, TX8, 14, tyX8, jc_X8, by decide, (jg_m1 110 rfl rfl), rfl, rfl, rfl⟩
set_option maxRecDepth 20000 in
theorem fl_X8_49 : jg_F RX8 49 8 6 .int false := ⟨RX8, TX8, 14, tyX8, jc_X8, by decide, (jg_m1 111 rfl rfl), rfl, rfl, rfl⟩
set_option maxRecDepth 20000 in
theorem fl_X8_30 : jg_F RX8 30 8 7 (.array .int) true := ⟨RX8, TX8, 14, tyX8, jc_X8, by decide, (jg_m1 112 rfl rfl), rfl, rfl, rfl⟩
set_option maxRecDepth 20000 in
theorem fl_X8_33 : jg_F RX8 33 8 8 (.array .int) true := ⟨RX8, TX8, 14, tyX8, jc_X8, by decide, (jg_m1 113 rfl rfl), rfl, rfl, rfl⟩
set_option maxRecDepth 20000 in
theorem fl_X8_36 : jg_F RX8 36 8 9 (.array .int) true := ⟨RX8, TX8, 14, tyX8, jc_X8, by decide, (jg_m1 114 rfl rfl), rfl, rfl, rfl⟩
set_option maxRecDepth 20000 in
theorem fl_X8_53 : jg_F RX8 53 8 10 .int false := ⟨RX8, TX8, 14, tyX8, jc_X8, by decide, (jg_m1 115 rfl rfl), rfl, rfl, rfl⟩
set_option maxRecDepth 20000 in
theorem fl_X11_79 : jg_F RX11 79 8 10 .int false := ⟨RX8, TX8, 14, tyX8, jc_X8, by decide, (jg_m1 116 rfl rfl), rfl, rfl, rfl⟩
set_option maxRecDepth 20000 in
theorem fl_X8_56 : jg_F RX8 56 8 11 .int false := ⟨RX8, TX8, 14, tyX8, jc_X8, by decide, (jg_m1 117 rfl rfl), rfl, rfl, rfl⟩
set_option maxRecDepth 20000 in
theorem fl_X11_440 : jg_F RX11 440 8 11 .int false := ⟨RX8, TX8, 14, tyX8, jc_X8, by decide, (jg_m1 118 rfl rfl), rfl, rfl, rfl⟩
set_option maxRecDepth 20000 in
theorem fl_X8_59 : jg_F RX8 59 8 12 .int false := ⟨RX8, TX8, 14, tyX8, jc_X8, by decide, (jg_m1 119 rfl rfl), rfl, rfl, rfl⟩
set_option maxRecDepth 20000 in
theorem fl_X11_443 : jg_F RX11 443 8 12 .int false := ⟨RX8, TX8, 14, tyX8, jc_X8, by decide, (jg_m1 120 rfl rfl), rfl, rfl, rfl⟩
set_option maxRecDepth 20000 in
theorem fl_X8_62 : jg_F RX8 62 8 13 .int false := ⟨RX8, TX8, 14, tyX8, jc_X8, by decide, (jg_m1 121 rfl rfl), rfl, rfl, rfl⟩
set_option maxRecDepth 20000 in
theorem fl_X11_446 : jg_F RX11 446 8 13 .int false := ⟨RX8, TX8, 14, tyX8, jc_X8, by decide, (jg_m1 122 rfl rfl), rfl, rfl, rfl⟩
set_option maxRecDepth 20000 in
theorem fl_X10_9 : jg_F RX10 9 10 0 (.array .int) true := ⟨RX10, TX10, 6, tyX10, jc_X10, by decide, (jg_m1 159 rfl rfl), rfl, rfl, rfl⟩
set_option maxRecDepth 20000 in
theorem fl_X10_15 : jg_F RX10 15 10 1 (.array .int) true := ⟨RX10, TX10, 6, tyX10, jc_X10, by decide, (jg_m1 160 rfl rfl), rfl, rfl, rfl⟩
set_option maxRecDepth 20000 in
theorem fl_X10_18 : jg_F RX10 18 10 2 (.array .int) true := ⟨RX10, TX10, 6, tyX10, jc_X10, by decide, (jg_m1 161 rfl rfl), rfl, rfl, rfl⟩
set_option maxRecDepth 20000 in
theorem fl_X2_149 : jg_F RX2 149 10 2 (.array .int) true := ⟨RX10, TX10, 6, tyX10, jc_X10, by decide, (jg_m1 162 rfl rfl), rfl, rfl, rfl⟩
set_option maxRecDepth 20000 in
theorem fl_X10_21 : jg_F RX10 21 10 3 (.array .int) true := ⟨RX10, TX10, 6, tyX10, jc_X10, by decide, (jg_m1 163 rfl rfl), rfl, rfl, rfl⟩
set_option maxRecDepth 20000 in
theorem fl_X10_37 : jg_F RX10 37 10 4 .int false := ⟨RX10, TX10, 6, tyX10, jc_X10, by decide, (jg_m1 164 rfl rfl), rfl, rfl, rfl⟩
set_option maxRecDepth 20000 in
theorem fl_X11_449 : jg_F RX11 449 10 4 .int false := ⟨RX10, TX10, 6, tyX10, jc_X10, by decide, (jg_m1 165 rfl rfl), rfl, rfl, rfl⟩
set_option maxRecDepth 20000 in
theorem fl_X10_24 : jg_F RX10 24 10 5 (.array .int) true := ⟨RX10, TX10, 6, tyX10, jc_X10, by decide, (jg_m1 166 rfl rfl), rfl, rfl, rfl⟩
set_option maxRecDepth 20000 in
theorem fl_X2_150 : jg_F RX2 150 10 5 (.array .int) true := ⟨RX10, TX10, 6, tyX10, jc_X10, by decide, (jg_m1 167 rfl rfl), rfl, rfl, rfl⟩
set_option maxRecDepth 20000 in
theorem fl_X0_11 : jg_F RX0 11 0 0 .int true := ⟨RX0, TX0, 6, tyX0, jc_X0, by decide, (jg_m1 193 rfl rfl), rfl, rfl, rfl⟩
set_option maxRecDepth 20000 in
theorem fl_X11_293 : jg_F RX11 293 0 0 .int true := ⟨RX0, TX0, 6, tyX0, jc_X0, by decide, (jg_m1 194 rfl rfl), rfl, rfl, rfl⟩
set_option maxRecDepth 20000 in
theorem fl_X0_15 : jg_F RX0 15 0 1 (.array .int) true := ⟨RX0, TX0, 6, tyX0, jc_X0, by decide, (jg_m1 195 rfl rfl), rfl, rfl, rfl⟩
set_option maxRecDepth 20000 in
theorem fl_X0_19 : jg_F RX0 19 0 2 (.array .int) true := ⟨RX0, TX0, 6, tyX0, jc_X0, by decide, (jg_m1 196 rfl rfl), rfl, rfl, rfl⟩
set_option maxRecDepth 20000 in
theorem fl_X0_22 : jg_F RX0 22 0 3 (.array .int) true := ⟨RX0, TX0, 6, tyX0, jc_X0, by decide, (jg_m1 197 rfl rfl), rfl, rfl, rfl⟩
set_option maxRecDepth 20000 in
theorem fl_X0_25 : jg_F RX0 25 0 4 (.array .int) true := ⟨RX0, TX0, 6, tyX0, jc_X0, by decide, (jg_m1 198 rfl rfl), rfl, rfl, rfl⟩
set_option maxRecDepth 20000 in
theorem fl_X0_28 : jg_F RX0 28 0 5 (.array .int) true := ⟨RX0, TX0, 6, tyX0, jc_X0, by decide, (jg_m1 199 rfl rfl), rfl, rfl, rfl⟩
set_option maxRecDepth 20000 in
theorem fl_X3_14 : jg_F RX3 14 3 0 (.object "SiltHarbour$Act") true := ⟨RX3, TX3, 10, tyX3, jc_X3, by decide, (jg_m1 214 rfl rfl), rfl, rfl, rfl⟩
set_option maxRecDepth 20000 in
theorem fl_X2_38 : jg_F RX2 38 3 0 (.object "SiltHarbour$Act") true := ⟨RX3, TX3, 10, tyX3, jc_X3, by decide, (jg_m1 215 rfl rfl), rfl, rfl, rfl⟩
set_option maxRecDepth 20000 in
theorem fl_X3_20 : jg_F RX3 20 3 1 (.array (.object "SiltHarbour$Act")) true := ⟨RX3, TX3, 10, tyX3, jc_X3, by decide, (jg_m1 216 rfl rfl), rfl, rfl, rfl⟩
set_option maxRecDepth 20000 in
theorem fl_X3_24 : jg_F RX3 24 3 2 (.array .int) true := ⟨RX3, TX3, 10, tyX3, jc_X3, by decide, (jg_m1 217 rfl rfl), rfl, rfl, rfl⟩
set_option maxRecDepth 20000 in
theorem fl_X3_35 : jg_F RX3 35 3 3 .int false := ⟨RX3, TX3, 10, tyX3, jc_X3, by decide, (jg_m1 218 rfl rfl), rfl, rfl, rfl⟩
set_option maxRecDepth 20000 in
theorem fl_X11_284 : jg_F RX11 284 3 3 .int false := ⟨RX3, TX3, 10, tyX3, jc_X3, by decide, (jg_m1 219 rfl rfl), rfl, rfl, rfl⟩
set_option maxRecDepth 20000 in
theorem fl_X3_43 : jg_F RX3 43 3 4 .boolean false := ⟨RX3, TX3, 10, tyX3, jc_X3, by decide, (jg_m1 220 rfl rfl), rfl, rfl, rfl⟩
set_option maxRecDepth 20000 in
theorem fl_X11_298 : jg_F RX11 298 3 4 .boolean false := ⟨RX3, TX3, 10, tyX3, jc_X3, by decide, (jg_m1 221 rfl rfl), rfl, rfl, rfl⟩
set_option maxRecDepth 20000 in
theorem fl_X3_28 : jg_F RX3 28 3 5 (.object "SiltHarbour$Act") false := ⟨RX3, TX3, 10, tyX3, jc_X3, by decide, (jg_m1 222 rfl rfl), rfl, rfl, rfl⟩
set_option maxRecDepth 20000 in
theorem fl_X3_47 : jg_F RX3 47 3 6 .int false := ⟨RX3, TX3, 10, tyX3, jc_X3, by decide, (jg_m1 223 rfl rfl), rfl, rfl, rfl⟩
set_option maxRecDepth 20000 in
theorem fl_X3_31 : jg_F RX3 31 3 7 (.array .boolean) true := ⟨RX3, TX3, 10, tyX3, jc_X3, by decide, (jg_m1 224 rfl rfl), rfl, rfl, rfl⟩
set_option maxRecDepth 20000 in
theorem fl_X3_50 : jg_F RX3 50 3 8 .int false := ⟨RX3, TX3, 10, tyX3, jc_X3, by decide, (jg_m1 225 rfl rfl), rfl, rfl, rfl⟩
set_option maxRecDepth 20000 in
theorem fl_X3_53 : jg_F RX3 53 3 9 .int false := ⟨RX3, TX3, 10, tyX3, jc_X3, by decide, (jg_m1 226 rfl rfl), rfl, rfl, rfl⟩
set_option maxRecDepth 20000 in
theorem fl_X1_9 : jg_F RX1 9 1 0 .int false := ⟨RX1, TX1, 9, tyX1, jc_X1, by decide, (jg_m2 22 rfl rfl), rfl, rfl, rfl⟩
set_option maxRecDepth 20000 in
theorem fl_X5_68 : jg_F RX5 68 1 0 .int false := ⟨RX1, TX1, 9, tyX1, jc_X1, by decide, (jg_m2 23 rfl rfl), rfl, rfl, rfl⟩
set_option maxRecDepth 20000 in
theorem fl_X4_87 : jg_F RX4 87 1 0 .int false := ⟨RX1, TX1, 9, tyX1, jc_X1, by decide, (jg_m2 24 rfl rfl), rfl, rfl, rfl⟩
set_option maxRecDepth 20000 in
theorem fl_X2_258 : jg_F RX2 258 1 0 .int false := ⟨RX1, TX1, 9, tyX1, jc_X1, by decide, (jg_m2 25 rfl rfl), rfl, rfl, rfl⟩
set_option maxRecDepth 20000 in
theorem fl_X11_238 : jg_F RX11 238 1 0 .int false := ⟨RX1, TX1, 9, tyX1, jc_X1, by decide, (jg_m2 26 rfl rfl), rfl, rfl, rfl⟩
set_option maxRecDepth 20000 in
theorem fl_X1_15 : jg_F RX1 15 1 1 .int false := ⟨RX1, TX1, 9, tyX1, jc_X1, by decide, (jg_m2 27 rfl rfl), rfl, rfl, rfl⟩
set_option maxRecDepth 20000 in
theorem fl_X4_90 : jg_F RX4 90 1 1 .int false := ⟨RX1, TX1, 9, tyX1, jc_X1, by decide, (jg_m2 28 rfl rfl), rfl, rfl, rfl⟩
set_option maxRecDepth 20000 in
theorem fl_X5_77 : jg_F RX5 77 1 1 .int false := ⟨RX1, TX1, 9, tyX1, jc_X1, by decide, (jg_m2 29 rfl rfl), rfl, rfl, rfl⟩
set_option maxRecDepth 20000 in
theorem fl_X1_18 : jg_F RX1 18 1 2 .int false := ⟨RX1, TX1, 9, tyX1, jc_X1, by decide, (jg_m2 30 rfl rfl), rfl, rfl, rfl⟩
set_option maxRecDepth 20000 in
theorem fl_X4_82 : jg_F RX4 82 1 2 .int false := ⟨RX1, TX1, 9, tyX1, jc_X1, by decide, (jg_m2 31 rfl rfl), rfl, rfl, rfl⟩
set_option maxRecDepth 20000 in
theorem fl_X5_102 : jg_F RX5 102 1 2 .int false := ⟨RX1, TX1, 9, tyX1, jc_X1, by decide, (jg_m2 32 rfl rfl), rfl, rfl, rfl⟩
set_option maxRecDepth 20000 in
theorem fl_X1_21 : jg_F RX1 21 1 3 .int false := ⟨RX1, TX1, 9, tyX1, jc_X1, by decide, (jg_m2 33 rfl rfl), rfl, rfl, rfl⟩
set_option maxRecDepth 20000 in
theorem fl_X5_121 : jg_F RX5 121 1 3 .int false := ⟨RX1, TX1, 9, tyX1, jc_X1, by decide, (jg_m2 34 rfl rfl), rfl, rfl, rfl⟩
set_option maxRecDepth 20000 in
theorem fl_X1_24 : jg_F RX1 24 1 4 .int false := ⟨RX1, TX1, 9, tyX1, jc_X1, by decide, (jg_m2 35 rfl rfl), rfl, rfl, rfl⟩
set_option maxRecDepth 20000 in
theorem fl_X5_111 : jg_F RX5 111 1 4 .int false := ⟨RX1, TX1, 9, tyX1, jc_X1, by decide, (jg_m2 36 rfl rfl), rfl, rfl, rfl⟩
set_option maxRecDepth 20000 in
theorem fl_X11_243 : jg_F RX11 243 1 4 .int false := ⟨RX1, TX1, 9, tyX1, jc_X1, by decide, (jg_m2 37 rfl rfl), rfl, rfl, rfl⟩
set_option maxRecDepth 20000 in
theorem fl_X1_27 : jg_F RX1 27 1 5 .int false := ⟨RX1, TX1, 9, tyX1, jc_X1, by decide, (jg_m2 38 rfl rfl), rfl, rfl, rfl⟩
set_option maxRecDepth 20000 in
theorem fl_X5_124 : jg_F RX5 124 1 5 .int false := ⟨RX1, TX1, 9, tyX1, jc_X1, by decide, (jg_m2 39 rfl rfl), rfl, rfl, rfl⟩
set_option maxRecDepth 20000 in
theorem fl_X11_252 : jg_F RX11 252 1 5 .int false := ⟨RX1, TX1, 9, tyX1, jc_X1, by decide, (jg_m2 40 rfl rfl), rfl, rfl, rfl⟩
set_option maxRecDepth 20000 in
theorem fl_X1_30 : jg_F RX1 30 1 6 .int false := ⟨RX1, TX1, 9, tyX1, jc_X1, by decide, (jg_m2 41 rfl rfl), rfl, rfl, rfl⟩
set_option maxRecDepth 20000 in
theorem fl_X5_114 : jg_F RX5 114 1 6 .int false := ⟨RX1, TX1, 9, tyX1, jc_X1, by decide, (jg_m2 42 rfl rfl), rfl, rfl, rfl⟩
set_option maxRecDepth 20000 in
theorem fl_X11_255 : jg_F RX11 255 1 6 .int false := ⟨RX1, TX1, 9, tyX1, jc_X1, by decide, (jg_m2 43 rfl rfl), rfl, rfl, rfl⟩
set_option maxRecDepth 20000 in
theorem fl_X1_33 : jg_F RX1 33 1 7 .int false := ⟨RX1, TX1, 9, tyX1, jc_X1, by decide, (jg_m2 44 rfl rfl), rfl, rfl, rfl⟩
set_option maxRecDepth 20000 in
theorem fl_X5_71 : jg_F RX5 71 1 7 .int false := ⟨RX1, TX1, 9, tyX1, jc_X1, by decide, (jg_m2 45 rfl rfl), rfl, rfl, rfl⟩
set_option maxRecDepth 20000 in
theorem fl_X4_91 : jg_F RX4 91 1 7 .int false := ⟨RX1, TX1, 9, tyX1, jc_X1, by decide, (jg_m2 46 rfl rfl), rfl, rfl, rfl⟩
set_option maxRecDepth 20000 in
theorem fl_X2_251 : jg_F RX2 251 1 7 .int false := ⟨RX1, TX1, 9, tyX1, jc_X1, by decide, (jg_m2 47 rfl rfl), rfl, rfl, rfl⟩
set_option maxRecDepth 20000 in
theorem fl_X11_249 : jg_F RX11 249 1 7 .int false := ⟨RX1, TX1, 9, tyX1, jc_X1, by decide, (jg_m2 48 rfl rfl), rfl, rfl, rfl⟩
set_option maxRecDepth 20000 in
theorem fl_X1_36 : jg_F RX1 36 1 8 .int false := ⟨RX1, TX1, 9, tyX1, jc_X1, by decide, (jg_m2 49 rfl rfl), rfl, rfl, rfl⟩
set_option maxRecDepth 20000 in
theorem fl_X5_81 : jg_F RX5 81 1 8 .int false := ⟨RX1, TX1, 9, tyX1, jc_X1, by decide, (jg_m2 50 rfl rfl), rfl, rfl, rfl⟩
set_option maxRecDepth 20000 in
theorem fl_X2_261 : jg_F RX2 261 1 8 .int false := ⟨RX1, TX1, 9, tyX1, jc_X1, by decide, (jg_m2 51 rfl rfl), rfl, rfl, rfl⟩
set_option maxRecDepth 20000 in
theorem fl_X9_15 : jg_F RX9 15 9 0 .int false := ⟨RX9, TX9, 19, tyX9, jc_X9, by decide, (jg_m2 78 rfl rfl), rfl, rfl, rfl⟩
set_option maxRecDepth 20000 in
theorem fl_X2_285 : jg_F RX2 285 9 0 .int false := ⟨RX9, TX9, 19, tyX9, jc_X9, by decide, (jg_m2 79 rfl rfl), rfl, rfl, rfl⟩
set_option maxRecDepth 20000 in
theorem fl_X9_19 : jg_F RX9 19 9 1 .int false := ⟨RX9, TX9, 19, tyX9, jc_X9, by decide, (jg_m2 80 rfl rfl), rfl, rfl, rfl⟩
set_option maxRecDepth 20000 in
theorem fl_X4_77 : jg_F RX4 77 9 1 .int false := ⟨RX9, TX9, 19, tyX9, jc_X9, by decide, (jg_m2 81 rfl rfl), rfl, rfl, rfl⟩
set_option maxRecDepth 20000 in
theorem fl_X2_292 : jg_F RX2 292 9 1 .int false := ⟨RX9, TX9, 19, tyX9, jc_X9, by decide, (jg_m2 82 rfl rfl), rfl, rfl, rfl⟩
set_option maxRecDepth 20000 in
theorem fl_X9_22 : jg_F RX9 22 9 2 .int false := ⟨RX9, TX9, 19, tyX9, jc_X9, by decide, (jg_m2 83 rfl rfl), rfl, rfl, rfl⟩
set_option maxRecDepth 20000 in
theorem fl_X4_79 : jg_F RX4 79 9 2 .int false := ⟨RX9, TX9, 19, tyX9, jc_X9, by decide, (jg_m2 84 rfl rfl), rfl, rfl, rfl⟩
set_option maxRecDepth 20000 in
theorem fl_X5_80 : jg_F RX5 80 9 2 .int false := ⟨RX9, TX9, 19, tyX9, jc_X9, by decide, (jg_m2 85 rfl rfl), rfl, rfl, rfl⟩
set_option maxRecDepth 20000 in
theorem fl_X2_295 : jg_F RX2 295 9 2 .int false := ⟨RX9, TX9, 19, tyX9, jc_X9, by decide, (jg_m2 86 rfl rfl), rfl, rfl, rfl⟩
set_option maxRecDepth 20000 in
theorem fl_X9_25 : jg_F RX9 25 9 3 .boolean false := ⟨RX9, TX9, 19, tyX9, jc_X9, by decide, (jg_m2 87 rfl rfl), rfl, rfl, rfl⟩
set_option maxRecDepth 20000 in
theorem fl_X2_288 : jg_F RX2 288 9 3 .boolean false := ⟨RX9, TX9, 19, tyX9, jc_X9, by decide, (jg_m2 88 rfl rfl), rfl, rfl, rfl⟩
set_option maxRecDepth 20000 in
theorem fl_X9_63 : jg_F RX9 63 9 4 .int false := ⟨RX9, TX9, 19, tyX9, jc_X9, by decide, (jg_m2 89 rfl rfl), rfl, rfl, rfl⟩
set_option maxRecDepth 20000 in
theorem fl_X4_72 : jg_F RX4 72 9 4 .int false := ⟨RX9, TX9, 19, tyX9, jc_X9, by decide, (jg_m2 90 rfl rfl), rfl, rfl, rfl⟩
set_option maxRecDepth 20000 in
theorem fl_X5_84 : jg_F RX5 84 9 4 .int false := ⟨RX9, TX9, 19, tyX9, jc_X9, by decide, (jg_m2 91 rfl rfl), rfl, rfl, rfl⟩
set_option maxRecDepth 20000 in
theorem fl_X2_269 : jg_F RX2 269 9 4 .int false := ⟨RX9, TX9, 19, tyX9, jc_X9, by decide, (jg_m2 92 rfl rfl), rfl, rfl, rfl⟩
set_option maxRecDepth 20000 in
theorem fl_X11_167 : jg_F RX11 167 9 4 .int false := ⟨RX9, TX9, 19, tyX9, jc_X9, by decide, (jg_m2 93 rfl rfl), rfl, rfl, rfl⟩
set_option maxRecDepth 20000 in
theorem fl_X9_66 : jg_F RX9 66 9 5 .int false := ⟨RX9, TX9, 19, tyX9, jc_X9, by decide, (jg_m2 94 rfl rfl), rfl, rfl, rfl⟩
set_option maxRecDepth 20000 in
theorem fl_X2_178 : jg_F RX2 178 9 5 .int false := ⟨RX9, TX9, 19, tyX9, jc_X9, by decide, (jg_m2 95 rfl rfl), rfl, rfl, rfl⟩
set_option maxRecDepth 20000 in
theorem fl_X11_170 : jg_F RX11 170 9 5 .int false := ⟨RX9, TX9, 19, tyX9, jc_X9, by decide, (jg_m2 96 rfl rfl), rfl, rfl, rfl⟩
set_option maxRecDepth 20000 in
theorem fl_X9_69 : jg_F RX9 69 9 6 .int false := ⟨RX9, TX9, 19, tyX9, jc_X9, by decide, (jg_m2 97 rfl rfl), rfl, rfl, rfl⟩
set_option maxRecDepth 20000 in
theorem fl_X2_218 : jg_F RX2 218 9 6 .int false := ⟨RX9, TX9, 19, tyX9, jc_X9, by decide, (jg_m2 98 rfl rfl), rfl, rfl, rfl⟩
set_option maxRecDepth 20000 in
theorem fl_X11_173 : jg_F RX11 173 9 6 .int false := ⟨RX9, TX9, 19, tyX9, jc_X9, by decide, (jg_m2 99 rfl rfl), rfl, rfl, rfl⟩
set_option maxRecDepth 20000 in
theorem fl_X5_127 : jg_F RX5 127 9 6 .int false := ⟨RX9, TX9, 19, tyX9, jc_X9, by decide, (jg_m2 100 rfl rfl), rfl, rfl, rfl⟩
set_option maxRecDepth 20000 in
theorem fl_X9_72 : jg_F RX9 72 9 7 .int false := ⟨RX9, TX9, 19, tyX9, jc_X9, by decide, (jg_m2 101 rfl rfl), rfl, rfl, rfl⟩
set_option maxRecDepth 20000 in
theorem fl_X11_176 : jg_F RX11 176 9 7 .int false := ⟨RX9, TX9, 19, tyX9, jc_X9, by decide, (jg_m2 102 rfl rfl), rfl, rfl, rfl⟩
set_option maxRecDepth 20000 in
theorem fl_X2_335 : jg_F RX2 335 9 7 .int false := ⟨RX9, TX9, 19, tyX9, jc_X9, by decide, (jg_m2 103 rfl rfl), rfl, rfl, rfl⟩
set_option maxRecDepth 20000 in
theorem fl_X9_9 : jg_F RX9 9 9 8 (.object "SiltHarbour$Act") false := ⟨RX9, TX9, 19, tyX9, jc_X9, by decide, (jg_m2 104 rfl rfl), rfl, rfl, rfl⟩
set_option maxRecDepth 20000 in
theorem fl_X2_195 : jg_F RX2 195 9 8 (.object "SiltHarbour$Act") false := ⟨RX9, TX9, 19, tyX9, jc_X9, by decide, (jg_m2 105 rfl rfl), rfl, rfl, rfl⟩
set_option maxRecDepth 20000 in
theorem fl_X11_211 : jg_F RX11 211 9 8 (.object "SiltHarbour$Act") false := ⟨RX9, TX9, 19, tyX9, jc_X9, by decide, (jg_m2 106 rfl rfl), rfl, rfl, rfl⟩
set_option maxRecDepth 20000 in
theorem fl_X9_29 : jg_F RX9 29 9 9 .int false := ⟨RX9, TX9, 19, tyX9, jc_X9, by decide, (jg_m2 107 rfl rfl), rfl, rfl, rfl⟩
set_option maxRecDepth 20000 in
theorem fl_X2_282 : jg_F RX2 282 9 9 .int false := ⟨RX9, TX9, 19, tyX9, jc_X9, by decide, (jg_m2 108 rfl rfl), rfl, rfl, rfl⟩
set_option maxRecDepth 20000 in
theorem fl_X11_199 : jg_F RX11 199 9 9 .int false := ⟨RX9, TX9, 19, tyX9, jc_X9, by decide, (jg_m2 109 rfl rfl), rfl, rfl, rfl⟩
set_option maxRecDepth 20000 in
theorem fl_X9_32 : jg_F RX9 32 9 10 .int false := ⟨RX9, TX9, 19, tyX9, jc_X9, by decide, (jg_m2 110 rfl rfl), rfl, rfl, rfl⟩
set_option maxRecDepth 20000 in
theorem fl_X2_163 : jg_F RX2 163 9 10 .int false := ⟨RX9, TX9, 19, tyX9, jc_X9, by decide, (jg_m2 111 rfl rfl), rfl, rfl, rfl⟩
set_option maxRecDepth 20000 in
theorem fl_X5_74 : jg_F RX5 74 9 10 .int false := ⟨RX9, TX9, 19, tyX9, jc_X9, by decide, (jg_m2 112 rfl rfl), rfl, rfl, rfl⟩
set_option maxRecDepth 20000 in
theorem fl_X11_190 : jg_F RX11 190 9 10 .int false := ⟨RX9, TX9, 19, tyX9, jc_X9, by decide, (jg_m2 113 rfl rfl), rfl, rfl, rfl⟩
set_option maxRecDepth 20000 in
theorem fl_X9_35 : jg_F RX9 35 9 11 .int false := ⟨RX9, TX9, 19, tyX9, jc_X9, by decide, (jg_m2 114 rfl rfl), rfl, rfl, rfl⟩
set_option maxRecDepth 20000 in
theorem fl_X2_171 : jg_F RX2 171 9 11 .int false := ⟨RX9, TX9, 19, tyX9, jc_X9, by decide, (jg_m2 115 rfl rfl), rfl, rfl, rfl⟩
set_option maxRecDepth 20000 in
theorem fl_X11_193 : jg_F RX11 193 9 11 .int false := ⟨RX9, TX9, 19, tyX9, jc_X9, by decide, (jg_m2 116 rfl rfl), rfl, rfl, rfl⟩
set_option maxRecDepth 20000 in
theorem fl_X9_38 : jg_F RX9 38 9 12 .int false := ⟨RX9, TX9, 19, tyX9, jc_X9, by decide, (jg_m2 117 rfl rfl), rfl, rfl, rfl⟩
set_option maxRecDepth 20000 in
theorem fl_X5_105 : jg_F RX5 105 9 12 .int false := ⟨RX9, TX9, 19, tyX9, jc_X9, by decide, (jg_m2 118 rfl rfl), rfl, rfl, rfl⟩
set_option maxRecDepth 20000 in
theorem fl_X11_196 : jg_F RX11 196 9 12 .int false := ⟨RX9, TX9, 19, tyX9, jc_X9, by decide, (jg_m2 119 rfl rfl), rfl, rfl, rfl⟩
set_option maxRecDepth 20000 in
theorem fl_X9_41 : jg_F RX9 41 9 13 .int false := ⟨RX9, TX9, 19, tyX9, jc_X9, by decide, (jg_m2 120 rfl rfl), rfl, rfl, rfl⟩
set_option maxRecDepth 20000 in
theorem fl_X5_99 : jg_F RX5 99 9 13 .int false := ⟨RX9, TX9, 19, tyX9, jc_X9, by decide, (jg_m2 121 rfl rfl), rfl, rfl, rfl⟩
set_option maxRecDepth 20000 in
theorem fl_X2_276 : jg_F RX2 276 9 13 .int false := ⟨RX9, TX9, 19, tyX9, jc_X9, by decide, (jg_m2 122 rfl rfl), rfl, rfl, rfl⟩
set_option maxRecDepth 20000 in
theorem fl_X11_202 : jg_F RX11 202 9 13 .int false := ⟨RX9, TX9, 19, tyX9, jc_X9, by decide, (jg_m2 123 rfl rfl), rfl, rfl, rfl⟩
set_option maxRecDepth 20000 in
theorem fl_X9_44 : jg_F RX9 44 9 14 .int false := ⟨RX9, TX9, 19, tyX9, jc_X9, by decide, (jg_m2 124 rfl rfl), rfl, rfl, rfl⟩
set_option maxRecDepth 20000 in
theorem fl_X2_209 : jg_F RX2 209 9 14 .int false := ⟨RX9, TX9, 19, tyX9, jc_X9, by decide, (jg_m2 125 rfl rfl), rfl, rfl, rfl⟩
set_option maxRecDepth 20000 in
theorem fl_X11_205 : jg_F RX11 205 9 14 .int false := ⟨RX9, TX9, 19, tyX9, jc_X9, by decide, (jg_m2 126 rfl rfl), rfl, rfl, rfl⟩
set_option maxRecDepth 20000 in
theorem fl_X9_47 : jg_F RX9 47 9 15 .int false := ⟨RX9, TX9, 19, tyX9, jc_X9, by decide, (jg_m2 127 rfl rfl), rfl, rfl, rfl⟩
set_option maxRecDepth 20000 in
theorem fl_X2_206 : jg_F RX2 206 9 15 .int false := ⟨RX9, TX9, 19, tyX9, jc_X9, by decide, (jg_m2 128 rfl rfl), rfl, rfl, rfl⟩
set_option maxRecDepth 20000 in
theorem fl_X11_208 : jg_F RX11 208 9 15 .int false := ⟨RX9, TX9, 19, tyX9, jc_X9, by decide, (jg_m2 129 rfl rfl), rfl, rfl, rfl⟩
set_option maxRecDepth 20000 in
theorem fl_X9_50 : jg_F RX9 50 9 16 .int false := ⟨RX9, TX9, 19, tyX9, jc_X9, by decide, (jg_m2 130 rfl rfl), rfl, rfl, rfl⟩
set_option maxRecDepth 20000 in
theorem fl_X11_223 : jg_F RX11 223 9 16 .int false := ⟨RX9, TX9, 19, tyX9, jc_X9, by decide, (jg_m2 131 rfl rfl), rfl, rfl, rfl⟩
set_option maxRecDepth 20000 in
theorem fl_X2_320 : jg_F RX2 320 9 16 .int false := ⟨RX9, TX9, 19, tyX9, jc_X9, by decide, (jg_m2 132 rfl rfl), rfl, rfl, rfl⟩
set_option maxRecDepth 20000 in
theorem fl_X9_53 : jg_F RX9 53 9 17 .boolean false := ⟨RX9, TX9, 19, tyX9, jc_X9, by decide, (jg_m2 133 rfl rfl), rfl, rfl, rfl⟩
set_option maxRecDepth 20000 in
theorem fl_X2_309 : jg_F RX2 309 9 17 .boolean false := ⟨RX9, TX9, 19, tyX9, jc_X9, by decide, (jg_m2 134 rfl rfl), rfl, rfl, rfl⟩
set_option maxRecDepth 20000 in
theorem fl_X9_56 : jg_F RX9 56 9 18 .int false := ⟨RX9, TX9, 19, tyX9, jc_X9, by decide, (jg_m2 135 rfl rfl), rfl, rfl, rfl⟩
set_option maxRecDepth 20000 in
theorem fl_X2_192 : jg_F RX2 192 9 18 .int false := ⟨RX9, TX9, 19, tyX9, jc_X9, by decide, (jg_m2 136 rfl rfl), rfl, rfl, rfl⟩
set_option maxRecDepth 20000 in
theorem fl_X11_226 : jg_F RX11 226 9 18 .int false := ⟨RX9, TX9, 19, tyX9, jc_X9, by decide, (jg_m2 137 rfl rfl), rfl, rfl, rfl⟩
set_option maxRecDepth 20000 in
theorem fl_X5_130 : jg_F RX5 130 9 18 .int false := ⟨RX9, TX9, 19, tyX9, jc_X9, by decide, (jg_m2 138 rfl rfl), rfl, rfl, rfl⟩
set_option maxRecDepth 20000 in
theorem fl_X5_11 : jg_F RX5 11 5 0 (.array (.object "SiltHarbour$Berth")) true := ⟨RX5, TX5, 8, tyX5, jc_X5, by decide, (jg_m2 178 rfl rfl), rfl, rfl, rfl⟩
set_option maxRecDepth 20000 in
theorem fl_X2_247 : jg_F RX2 247 5 0 (.array (.object "SiltHarbour$Berth")) true := ⟨RX5, TX5, 8, tyX5, jc_X5, by decide, (jg_m2 179 rfl rfl), rfl, rfl, rfl⟩
set_option maxRecDepth 20000 in
theorem fl_X11_234 : jg_F RX11 234 5 0 (.array (.object "SiltHarbour$Berth")) true := ⟨RX5, TX5, 8, tyX5, jc_X5, by decide, (jg_m2 180 rfl rfl), rfl, rfl, rfl⟩
set_option maxRecDepth 20000 in
theorem fl_X5_38 : jg_F RX5 38 5 1 .int false := ⟨RX5, TX5, 8, tyX5, jc_X5, by decide, (jg_m2 181 rfl rfl), rfl, rfl, rfl⟩
set_option maxRecDepth 20000 in
theorem fl_X2_244 : jg_F RX2 244 5 1 .int false := ⟨RX5, TX5, 8, tyX5, jc_X5, by decide, (jg_m2 182 rfl rfl), rfl, rfl, rfl⟩
set_option maxRecDepth 20000 in
theorem fl_X11_127 : jg_F RX11 127 5 1 .int false := ⟨RX5, TX5, 8, tyX5, jc_X5, by decide, (jg_m2 183 rfl rfl), rfl, rfl, rfl⟩
set_option maxRecDepth 20000 in
theorem fl_X5_20 : jg_F RX5 20 5 2 (.array (.object "SiltHarbour$Ship")) true := ⟨RX5, TX5, 8, tyX5, jc_X5, by decide, (jg_m2 184 rfl rfl), rfl, rfl, rfl⟩
set_option maxRecDepth 20000 in
theorem fl_X2_159 : jg_F RX2 159 5 2 (.array (.object "SiltHarbour$Ship")) true := ⟨RX5, TX5, 8, tyX5, jc_X5, by decide, (jg_m2 185 rfl rfl), rfl, rfl, rfl⟩
set_option maxRecDepth 20000 in
theorem fl_X11_157 : jg_F RX11 157 5 2 (.array (.object "SiltHarbour$Ship")) true := ⟨RX5, TX5, 8, tyX5, jc_X5, by decide, (jg_m2 186 rfl rfl), rfl, rfl, rfl⟩
set_option maxRecDepth 20000 in
theorem fl_X5_45 : jg_F RX5 45 5 3 .int false := ⟨RX5, TX5, 8, tyX5, jc_X5, by decide, (jg_m2 187 rfl rfl), rfl, rfl, rfl⟩
set_option maxRecDepth 20000 in
theorem fl_X2_156 : jg_F RX2 156 5 3 .int false := ⟨RX5, TX5, 8, tyX5, jc_X5, by decide, (jg_m2 188 rfl rfl), rfl, rfl, rfl⟩
set_option maxRecDepth 20000 in
theorem fl_X11_154 : jg_F RX11 154 5 3 .int false := ⟨RX5, TX5, 8, tyX5, jc_X5, by decide, (jg_m2 189 rfl rfl), rfl, rfl, rfl⟩
set_option maxRecDepth 20000 in
theorem fl_X5_27 : jg_F RX5 27 5 4 .int false := ⟨RX5, TX5, 8, tyX5, jc_X5, by decide, (jg_m2 190 rfl rfl), rfl, rfl, rfl⟩
set_option maxRecDepth 20000 in
theorem fl_X11_135 : jg_F RX11 135 5 4 .int false := ⟨RX5, TX5, 8, tyX5, jc_X5, by decide, (jg_m2 191 rfl rfl), rfl, rfl, rfl⟩
set_option maxRecDepth 20000 in
theorem fl_X5_31 : jg_F RX5 31 5 5 .int false := ⟨RX5, TX5, 8, tyX5, jc_X5, by decide, (jg_m2 192 rfl rfl), rfl, rfl, rfl⟩
set_option maxRecDepth 20000 in
theorem fl_X11_138 : jg_F RX11 138 5 5 .int false := ⟨RX5, TX5, 8, tyX5, jc_X5, by decide, (jg_m2 193 rfl rfl), rfl, rfl, rfl⟩
set_option maxRecDepth 20000 in
theorem fl_X5_34 : jg_F RX5 34 5 6 (.array .int) true := ⟨RX5, TX5, 8, tyX5, jc_X5, by decide, (jg_m2 194 rfl rfl), rfl, rfl, rfl⟩
set_option maxRecDepth 20000 in
theorem fl_X5_55 : jg_F RX5 55 5 7 .int false := ⟨RX5, TX5, 8, tyX5, jc_X5, by decide, (jg_m2 195 rfl rfl), rfl, rfl, rfl⟩
set_option maxRecDepth 20000 in
theorem fl_X11_425 : jg_F RX11 425 5 7 .int false := ⟨RX5, TX5, 8, tyX5, jc_X5, by decide, (jg_m2 196 rfl rfl), rfl, rfl, rfl⟩
set_option maxRecDepth 20000 in
theorem fl_X6_39 : jg_F RX6 39 6 0 .int false := ⟨RX6, TX6, 14, tyX6, jc_X6, by decide, (jg_m2 220 rfl rfl), rfl, rfl, rfl⟩
set_option maxRecDepth 20000 in
theorem fl_X11_352 : jg_F RX11 352 6 0 .int false := ⟨RX6, TX6, 14, tyX6, jc_X6, by decide, (jg_m2 221 rfl rfl), rfl, rfl, rfl⟩
set_option maxRecDepth 20000 in
theorem fl_X6_43 : jg_F RX6 43 6 1 .int false := ⟨RX6, TX6, 14, tyX6, jc_X6, by decide, (jg_m2 222 rfl rfl), rfl, rfl, rfl⟩
set_option maxRecDepth 20000 in
theorem fl_X11_428 : jg_F RX11 428 6 1 .int false := ⟨RX6, TX6, 14, tyX6, jc_X6, by decide, (jg_m2 223 rfl rfl), rfl, rfl, rfl⟩
set_option maxRecDepth 20000 in
theorem fl_X6_46 : jg_F RX6 46 6 2 .int false := ⟨RX6, TX6, 14, tyX6, jc_X6, by decide, (jg_m2 224 rfl rfl), rfl, rfl, rfl⟩
set_option maxRecDepth 20000 in
theorem fl_X11_434 : jg_F RX11 434 6 2 .int false := ⟨RX6, TX6, 14, tyX6, jc_X6, by decide, (jg_m2 225 rfl rfl), rfl, rfl, rfl⟩
set_option maxRecDepth 20000 in
theorem fl_X6_9 : jg_F RX6 9 6 3 (.array .int) true := ⟨RX6, TX6, 14, tyX6, jc_X6, by decide, (jg_m2 226 rfl rfl), rfl, rfl, rfl⟩
set_option maxRecDepth 20000 in
theorem fl_X2_329 : jg_F RX2 329 6 3 (.array .int) true := ⟨RX6, TX6, 14, tyX6, jc_X6, by decide, (jg_m2 227 rfl rfl), rfl, rfl, rfl⟩
set_option maxRecDepth 20000 in
theorem fl_X11_338 : jg_F RX11 338 6 3 (.array .int) true := ⟨RX6, TX6, 14, tyX6, jc_X6, by decide, (jg_m2 228 rfl rfl), rfl, rfl, rfl⟩
set_option maxRecDepth 20000 in
theorem fl_X6_15 : jg_F RX6 15 6 4 (.array .int) true := ⟨RX6, TX6, 14, tyX6, jc_X6, by decide, (jg_m2 229 rfl rfl), rfl, rfl, rfl⟩
set_option maxRecDepth 20000 in
theorem fl_X2_332 : jg_F RX2 332 6 4 (.array .int) true := ⟨RX6, TX6, 14, tyX6, jc_X6, by decide, (jg_m2 230 rfl rfl), rfl, rfl, rfl⟩
set_option maxRecDepth 20000 in
theorem fl_X11_341 : jg_F RX11 341 6 4 (.array .int) true := ⟨RX6, TX6, 14, tyX6, jc_X6, by decide, (jg_m2 231 rfl rfl), rfl, rfl, rfl⟩
set_option maxRecDepth 20000 in
theorem fl_X6_18 : jg_F RX6 18 6 5 (.array .int) true := ⟨RX6, TX6, 14, tyX6, jc_X6, by decide, (jg_m2 232 rfl rfl), rfl, rfl, rfl⟩
set_option maxRecDepth 20000 in
theorem fl_X11_347 : jg_F RX11 347 6 5 (.array .int) true := ⟨RX6, TX6, 14, tyX6, jc_X6, by decide, (jg_m2 233 rfl rfl), rfl, rfl, rfl⟩
set_option maxRecDepth 20000 in
theorem fl_X6_53 : jg_F RX6 53 6 6 .int false := ⟨RX6, TX6, 14, tyX6, jc_X6, by decide, (jg_m2 234 rfl rfl), rfl, rfl, rfl⟩
set_option maxRecDepth 20000 in
theorem fl_X11_145 : jg_F RX11 145 6 6 .int false := ⟨RX6, TX6, 14, tyX6, jc_X6, by decide, (jg_m2 235 rfl rfl), rfl, rfl, rfl⟩
set_option maxRecDepth 20000 in
theorem fl_X6_21 : jg_F RX6 21 6 7 (.array .int) true := ⟨RX6, TX6, 14, tyX6, jc_X6, by decide, (jg_m2 236 rfl rfl), rfl, rfl, rfl⟩
set_option maxRecDepth 20000 in
theorem fl_X11_380 : jg_F RX11 380 6 7 (.array .int) true := ⟨RX6, TX6, 14, tyX6, jc_X6, by decide, (jg_m2 237 rfl rfl), rfl, rfl, rfl⟩
set_option maxRecDepth 20000 in
theorem fl_X6_24 : jg_F RX6 24 6 8 (.array .int) true := ⟨RX6, TX6, 14, tyX6, jc_X6, by decide, (jg_m2 238 rfl rfl), rfl, rfl, rfl⟩
set_option maxRecDepth 20000 in
theorem fl_X6_27 : jg_F RX6 27 6 9 (.array .int) true := ⟨RX6, TX6, 14, tyX6, jc_X6, by decide, (jg_m2 239 rfl rfl), rfl, rfl, rfl⟩
set_option maxRecDepth 20000 in
theorem fl_X6_30 : jg_F RX6 30 6 10 (.array .int) true := ⟨RX6, TX6, 14, tyX6, jc_X6, by decide, (jg_m3 0 rfl rfl), rfl, rfl, rfl⟩
set_option maxRecDepth 20000 in
theorem fl_X11_377 : jg_F RX11 377 6 10 (.array .int) true := ⟨RX6, TX6, 14, tyX6, jc_X6, by decide, (jg_m3 1 rfl rfl), rfl, rfl, rfl⟩
set_option maxRecDepth 20000 in
theorem fl_X6_33 : jg_F RX6 33 6 11 (.array .int) true := ⟨RX6, TX6, 14, tyX6, jc_X6, by decide, (jg_m3 2 rfl rfl), rfl, rfl, rfl⟩
set_option maxRecDepth 20000 in
theorem fl_X11_374 : jg_F RX11 374 6 11 (.array .int) true := ⟨RX6, TX6, 14, tyX6, jc_X6, by decide, (jg_m3 3 rfl rfl), rfl, rfl, rfl⟩
set_option maxRecDepth 20000 in
theorem fl_X6_36 : jg_F RX6 36 6 12 (.array .int) true := ⟨RX6, TX6, 14, tyX6, jc_X6, by decide, (jg_m3 4 rfl rfl), rfl, rfl, rfl⟩
set_option maxRecDepth 20000 in
theorem fl_X11_383 : jg_F RX11 383 6 12 (.array .int) true := ⟨RX6, TX6, 14, tyX6, jc_X6, by decide, (jg_m3 5 rfl rfl), rfl, rfl, rfl⟩
set_option maxRecDepth 20000 in
theorem fl_X6_56 : jg_F RX6 56 6 13 .int false := ⟨RX6, TX6, 14, tyX6, jc_X6, by decide, (jg_m3 6 rfl rfl), rfl, rfl, rfl⟩
set_option maxRecDepth 20000 in
theorem fl_X11_359 : jg_F RX11 359 6 13 .int false := ⟨RX6, TX6, 14, tyX6, jc_X6, by decide, (jg_m3 7 rfl rfl), rfl, rfl, rfl⟩
set_option maxRecDepth 20000 in
theorem fl_X4_9 : jg_F RX4 9 4 0 (.array .int) true := ⟨RX4, TX4, 12, tyX4, jc_X4, by decide, (jg_m3 45 rfl rfl), rfl, rfl, rfl⟩
set_option maxRecDepth 20000 in
theorem fl_X4_15 : jg_F RX4 15 4 1 (.array .int) true := ⟨RX4, TX4, 12, tyX4, jc_X4, by decide, (jg_m3 46 rfl rfl), rfl, rfl, rfl⟩
set_option maxRecDepth 20000 in
theorem fl_X4_18 : jg_F RX4 18 4 2 (.array .int) true := ⟨RX4, TX4, 12, tyX4, jc_X4, by decide, (jg_m3 47 rfl rfl), rfl, rfl, rfl⟩
set_option maxRecDepth 20000 in
theorem fl_X4_48 : jg_F RX4 48 4 3 .int false := ⟨RX4, TX4, 12, tyX4, jc_X4, by decide, (jg_m3 48 rfl rfl), rfl, rfl, rfl⟩
set_option maxRecDepth 20000 in
theorem fl_X4_21 : jg_F RX4 21 4 4 (.array .int) true := ⟨RX4, TX4, 12, tyX4, jc_X4, by decide, (jg_m3 49 rfl rfl), rfl, rfl, rfl⟩
set_option maxRecDepth 20000 in
theorem fl_X4_24 : jg_F RX4 24 4 5 (.array .int) true := ⟨RX4, TX4, 12, tyX4, jc_X4, by decide, (jg_m3 50 rfl rfl), rfl, rfl, rfl⟩
set_option maxRecDepth 20000 in
theorem fl_X4_27 : jg_F RX4 27 4 6 (.array .int) true := ⟨RX4, TX4, 12, tyX4, jc_X4, by decide, (jg_m3 51 rfl rfl), rfl, rfl, rfl⟩
set_option maxRecDepth 20000 in
theorem fl_X4_62 : jg_F RX4 62 4 7 .int false := ⟨RX4, TX4, 12, tyX4, jc_X4, by decide, (jg_m3 52 rfl rfl), rfl, rfl, rfl⟩
set_option maxRecDepth 20000 in
theorem fl_X4_32 : jg_F RX4 32 4 8 (.array (.array .int)) true := ⟨RX4, TX4, 12, tyX4, jc_X4, by decide, (jg_m3 53 rfl rfl), rfl, rfl, rfl⟩
set_option maxRecDepth 20000 in
theorem fl_X2_347 : jg_F RX2 347 4 8 (.array (.array .int)) true := ⟨RX4, TX4, 12, tyX4, jc_X4, by decide, (jg_m3 54 rfl rfl), rfl, rfl, rfl⟩
set_option maxRecDepth 20000 in
theorem fl_X4_35 : jg_F RX4 35 4 9 (.array .int) true := ⟨RX4, TX4, 12, tyX4, jc_X4, by decide, (jg_m3 55 rfl rfl), rfl, rfl, rfl⟩
set_option maxRecDepth 20000 in
theorem fl_X4_38 : jg_F RX4 38 4 10 (.array .int) true := ⟨RX4, TX4, 12, tyX4, jc_X4, by decide, (jg_m3 56 rfl rfl), rfl, rfl, rfl⟩
set_option maxRecDepth 20000 in
theorem fl_X4_41 : jg_F RX4 41 4 11 (.array .int) true := ⟨RX4, TX4, 12, tyX4, jc_X4, by decide, (jg_m3 57 rfl rfl), rfl, rfl, rfl⟩
set_option maxRecDepth 20000 in
theorem fl_X2_9 : jg_F RX2 9 2 0 .int false := ⟨RX2, TX2, 10, tyX2, jc_X2, by decide, (jg_m3 83 rfl rfl), rfl, rfl, rfl⟩
set_option maxRecDepth 20000 in
theorem fl_X11_49 : jg_F RX11 49 2 0 .int false := ⟨RX2, TX2, 10, tyX2, jc_X2, by decide, (jg_m3 84 rfl rfl), rfl, rfl, rfl⟩
set_option maxRecDepth 20000 in
theorem fl_X2_18 : jg_F RX2 18 2 1 (.object "SiltHarbour$River") true := ⟨RX2, TX2, 10, tyX2, jc_X2, by decide, (jg_m3 85 rfl rfl), rfl, rfl, rfl⟩
set_option maxRecDepth 20000 in
theorem fl_X11_55 : jg_F RX11 55 2 1 (.object "SiltHarbour$River") true := ⟨RX2, TX2, 10, tyX2, jc_X2, by decide, (jg_m3 86 rfl rfl), rfl, rfl, rfl⟩
set_option maxRecDepth 20000 in
theorem fl_X2_25 : jg_F RX2 25 2 2 (.object "SiltHarbour$Soundings") true := ⟨RX2, TX2, 10, tyX2, jc_X2, by decide, (jg_m3 87 rfl rfl), rfl, rfl, rfl⟩
set_option maxRecDepth 20000 in
theorem fl_X11_112 : jg_F RX11 112 2 2 (.object "SiltHarbour$Soundings") true := ⟨RX2, TX2, 10, tyX2, jc_X2, by decide, (jg_m3 88 rfl rfl), rfl, rfl, rfl⟩
set_option maxRecDepth 20000 in
theorem fl_X2_45 : jg_F RX2 45 2 3 (.object "SiltHarbour$Port") true := ⟨RX2, TX2, 10, tyX2, jc_X2, by decide, (jg_m3 89 rfl rfl), rfl, rfl, rfl⟩
set_option maxRecDepth 20000 in
theorem fl_X11_123 : jg_F RX11 123 2 3 (.object "SiltHarbour$Port") true := ⟨RX2, TX2, 10, tyX2, jc_X2, by decide, (jg_m3 90 rfl rfl), rfl, rfl, rfl⟩
set_option maxRecDepth 20000 in
theorem fl_X2_52 : jg_F RX2 52 2 4 (.object "SiltHarbour$Purse") true := ⟨RX2, TX2, 10, tyX2, jc_X2, by decide, (jg_m3 91 rfl rfl), rfl, rfl, rfl⟩
set_option maxRecDepth 20000 in
theorem fl_X11_141 : jg_F RX11 141 2 4 (.object "SiltHarbour$Purse") true := ⟨RX2, TX2, 10, tyX2, jc_X2, by decide, (jg_m3 92 rfl rfl), rfl, rfl, rfl⟩
set_option maxRecDepth 20000 in
theorem fl_X2_32 : jg_F RX2 32 2 5 (.object "SiltHarbour$Laws") true := ⟨RX2, TX2, 10, tyX2, jc_X2, by decide, (jg_m3 93 rfl rfl), rfl, rfl, rfl⟩
set_option maxRecDepth 20000 in
theorem fl_X11_280 : jg_F RX11 280 2 5 (.object "SiltHarbour$Laws") true := ⟨RX2, TX2, 10, tyX2, jc_X2, by decide, (jg_m3 94 rfl rfl), rfl, rfl, rfl⟩
set_option maxRecDepth 20000 in
theorem fl_X2_59 : jg_F RX2 59 2 6 (.object "SiltHarbour$Plans") true := ⟨RX2, TX2, 10, tyX2, jc_X2, by decide, (jg_m3 95 rfl rfl), rfl, rfl, rfl⟩
set_option maxRecDepth 20000 in
theorem fl_X11_392 : jg_F RX11 392 2 6 (.object "SiltHarbour$Plans") true := ⟨RX2, TX2, 10, tyX2, jc_X2, by decide, (jg_m3 96 rfl rfl), rfl, rfl, rfl⟩
set_option maxRecDepth 20000 in
theorem fl_X2_63 : jg_F RX2 63 2 7 (.array .int) true := ⟨RX2, TX2, 10, tyX2, jc_X2, by decide, (jg_m3 97 rfl rfl), rfl, rfl, rfl⟩
set_option maxRecDepth 20000 in
theorem fl_X11_323 : jg_F RX11 323 2 7 (.array .int) true := ⟨RX2, TX2, 10, tyX2, jc_X2, by decide, (jg_m3 98 rfl rfl), rfl, rfl, rfl⟩
set_option maxRecDepth 20000 in
theorem fl_X2_67 : jg_F RX2 67 2 8 (.array .int) true := ⟨RX2, TX2, 10, tyX2, jc_X2, by decide, (jg_m3 99 rfl rfl), rfl, rfl, rfl⟩
set_option maxRecDepth 20000 in
theorem fl_X2_70 : jg_F RX2 70 2 9 (.array .int) true := ⟨RX2, TX2, 10, tyX2, jc_X2, by decide, (jg_m3 100 rfl rfl), rfl, rfl, rfl⟩
set_option maxRecDepth 20000 in
theorem fl_X11_9 : jg_F RX11 9 11 0 (.array .byte) true := ⟨RX11, TX11, 5, tyX11, jc_X11, by decide, (jg_m3 122 rfl rfl), rfl, rfl, rfl⟩
set_option maxRecDepth 20000 in
theorem fl_X11_13 : jg_F RX11 13 11 1 .int false := ⟨RX11, TX11, 5, tyX11, jc_X11, by decide, (jg_m3 123 rfl rfl), rfl, rfl, rfl⟩
set_option maxRecDepth 20000 in
theorem fl_X11_20 : jg_F RX11 20 11 2 (.object "SiltHarbour$Reader") true := ⟨RX11, TX11, 5, tyX11, jc_X11, by decide, (jg_m3 124 rfl rfl), rfl, rfl, rfl⟩
set_option maxRecDepth 20000 in
theorem fl_X11_27 : jg_F RX11 27 11 3 (.object "SiltHarbour$Board") true := ⟨RX11, TX11, 5, tyX11, jc_X11, by decide, (jg_m3 125 rfl rfl), rfl, rfl, rfl⟩
set_option maxRecDepth 20000 in
theorem fl_X11_31 : jg_F RX11 31 11 4 (.object "SiltHarbour$Board") false := ⟨RX11, TX11, 5, tyX11, jc_X11, by decide, (jg_m3 126 rfl rfl), rfl, rfl, rfl⟩
set_option maxRecDepth 20000 in
theorem fl_X12_3 : jg_F RX12 3 12 0 .int false := ⟨RX12, TX12, 23, tyX12, jc_X12, by decide, (jg_m7 203 rfl rfl), rfl, rfl, rfl⟩
set_option maxRecDepth 20000 in
theorem fl_X12_13 : jg_F RX12 13 12 1 (.array .int) true := ⟨RX12, TX12, 23, tyX12, jc_X12, by decide, (jg_m7 204 rfl rfl), rfl, rfl, rfl⟩
set_option maxRecDepth 20000 in
theorem fl_X12_17 : jg_F RX12 17 12 2 (.array .int) true := ⟨RX12, TX12, 23, tyX12, jc_X12, by decide, (jg_m7 205 rfl rfl), rfl, rfl, rfl⟩
set_option maxRecDepth 20000 in
theorem fl_X12_61 : jg_F RX12 61 12 3 .boolean false := ⟨RX12, TX12, 23, tyX12, jc_X12, by decide, (jg_m7 206 rfl rfl), rfl, rfl, rfl⟩
set_option maxRecDepth 20000 in
theorem fl_X12_20 : jg_F RX12 20 12 4 (.array .int) true := ⟨RX12, TX12, 23, tyX12, jc_X12, by decide, (jg_m7 207 rfl rfl), rfl, rfl, rfl⟩
set_option maxRecDepth 20000 in
theorem fl_X12_23 : jg_F RX12 23 12 5 (.array .int) true := ⟨RX12, TX12, 23, tyX12, jc_X12, by decide, (jg_m7 208 rfl rfl), rfl, rfl, rfl⟩
set_option maxRecDepth 20000 in
theorem fl_X12_150 : jg_F RX12 150 12 6 .int false := ⟨RX12, TX12, 23, tyX12, jc_X12, by decide, (jg_m7 209 rfl rfl), rfl, rfl, rfl⟩
set_option maxRecDepth 20000 in
theorem fl_X12_26 : jg_F RX12 26 12 7 (.array .byte) true := ⟨RX12, TX12, 23, tyX12, jc_X12, by decide, (jg_m7 210 rfl rfl), rfl, rfl, rfl⟩
set_option maxRecDepth 20000 in
theorem fl_X12_208 : jg_F RX12 208 12 8 .int false := ⟨RX12, TX12, 23, tyX12, jc_X12, by decide, (jg_m7 211 rfl rfl), rfl, rfl, rfl⟩
set_option maxRecDepth 20000 in
theorem fl_X12_211 : jg_F RX12 211 12 9 .int false := ⟨RX12, TX12, 23, tyX12, jc_X12, by decide, (jg_m7 212 rfl rfl), rfl, rfl, rfl⟩
set_option maxRecDepth 20000 in
theorem fl_X12_214 : jg_F RX12 214 12 10 .int false := ⟨RX12, TX12, 23, tyX12, jc_X12, by decide, (jg_m7 213 rfl rfl), rfl, rfl, rfl⟩
set_option maxRecDepth 20000 in
theorem fl_X12_220 : jg_F RX12 220 12 11 .int false := ⟨RX12, TX12, 23, tyX12, jc_X12, by decide, (jg_m7 214 rfl rfl), rfl, rfl, rfl⟩
set_option maxRecDepth 20000 in
theorem fl_X12_275 : jg_F RX12 275 12 12 .int false := ⟨RX12, TX12, 23, tyX12, jc_X12, by decide, (jg_m7 215 rfl rfl), rfl, rfl, rfl⟩
set_option maxRecDepth 20000 in
theorem fl_X12_30 : jg_F RX12 30 12 13 .int false := ⟨RX12, TX12, 23, tyX12, jc_X12, by decide, (jg_m7 216 rfl rfl), rfl, rfl, rfl⟩
set_option maxRecDepth 20000 in
theorem fl_X12_33 : jg_F RX12 33 12 14 (.array .int) true := ⟨RX12, TX12, 23, tyX12, jc_X12, by decide, (jg_m7 217 rfl rfl), rfl, rfl, rfl⟩
set_option maxRecDepth 20000 in
theorem fl_X12_245 : jg_F RX12 245 12 15 .int false := ⟨RX12, TX12, 23, tyX12, jc_X12, by decide, (jg_m7 218 rfl rfl), rfl, rfl, rfl⟩
set_option maxRecDepth 20000 in
theorem fl_X12_36 : jg_F RX12 36 12 16 (.array .boolean) true := ⟨RX12, TX12, 23, tyX12, jc_X12, by decide, (jg_m7 219 rfl rfl), rfl, rfl, rfl⟩
set_option maxRecDepth 20000 in
theorem fl_X12_40 : jg_F RX12 40 12 17 (.array .int) true := ⟨RX12, TX12, 23, tyX12, jc_X12, by decide, (jg_m7 220 rfl rfl), rfl, rfl, rfl⟩
set_option maxRecDepth 20000 in
theorem fl_X12_359 : jg_F RX12 359 12 18 .int false := ⟨RX12, TX12, 23, tyX12, jc_X12, by decide, (jg_m7 221 rfl rfl), rfl, rfl, rfl⟩
set_option maxRecDepth 20000 in
theorem fl_X12_361 : jg_F RX12 361 12 19 .boolean false := ⟨RX12, TX12, 23, tyX12, jc_X12, by decide, (jg_m7 222 rfl rfl), rfl, rfl, rfl⟩
set_option maxRecDepth 20000 in
theorem fl_X12_43 : jg_F RX12 43 12 20 (.array .int) true := ⟨RX12, TX12, 23, tyX12, jc_X12, by decide, (jg_m7 223 rfl rfl), rfl, rfl, rfl⟩
set_option maxRecDepth 20000 in
theorem fl_X12_46 : jg_F RX12 46 12 21 (.array .boolean) true := ⟨RX12, TX12, 23, tyX12, jc_X12, by decide, (jg_m7 224 rfl rfl), rfl, rfl, rfl⟩
set_option maxRecDepth 20000 in
theorem fl_X12_405 : jg_F RX12 405 12 22 .int false := ⟨RX12, TX12, 23, tyX12, jc_X12, by decide, (jg_m7 225 rfl rfl), rfl, rfl, rfl⟩
set_option maxRecDepth 20000 in
theorem ki_L_121 : jg_Ic RL 121 mX11_init 0 := ⟨(jg_m1 32 rfl rfl), wn_X11_init, rfl, rfl, wi_X11, wc_X11_init, by decide +kernel, by decide +kernel, by decide +kernel, by decide +kernel⟩
set_option maxRecDepth 20000 in
theorem ko_X11_1 : Cond.methodLink RX11 1 objectInit ∈ jg_ws := (jg_m1 35 rfl rfl)
set_option maxRecDepth 20000 in
theorem ki_X11_19 : jg_Ic RX11 19 mX7_init 0 := ⟨(jg_m1 40 rfl rfl), wn_X7_init, rfl, rfl, wi_X7, wc_X7_init, by decide +kernel, by decide +kernel, by decide +kernel, by decide +kernel⟩
set_option maxRecDepth 20000 in
theorem ko_X7_3 : Cond.methodLink RX7 3 objectInit ∈ jg_ws := (jg_m1 43 rfl rfl)
set_option maxRecDepth 20000 in
theorem ki_X11_26 : jg_Ic RX11 26 mX2_init 0 := ⟨(jg_m1 86 rfl rfl), wn_X2_init, rfl, rfl, wi_X2, wc_X2_init, by decide +kernel, by decide +kernel, by decide +kernel, by decide +kernel⟩
set_option maxRecDepth 20000 in
theorem ko_X2_3 : Cond.methodLink RX2 3 objectInit ∈ jg_ws := (jg_m1 89 rfl rfl)
set_option maxRecDepth 20000 in
theorem ki_X2_17 : jg_Ic RX2 17 mX8_init 0 := ⟨(jg_m1 92 rfl rfl), wn_X8_init, rfl, rfl, wi_X8, wc_X8_init, by decide +kernel, by decide +kernel, by decide +kernel, by decide +kernel⟩
set_option maxRecDepth 20000 in
theorem ko_X8_3 : Cond.methodLink RX8 3 objectInit ∈ jg_ws := (jg_m1 95 rfl rfl)
set_option maxRecDepth 20000 in
theorem ks_X8_39 : jg_Sc RX8 39 mJ7_fill_53178 2 := ⟨(jg_m1 96 rfl rfl), wt_J7_fill_53178, wi_J7, wc_J7_fill_53178, by decide +kernel, by decide +kernel, by decide +kernel, by decide +kernel⟩
set_option maxRecDepth 20000 in
theorem ki_X2_24 : jg_Ic RX2 24 mX10_init 0 := ⟨(jg_m1 154 rfl rfl), wn_X10_init, rfl, rfl, wi_X10, wc_X10_init, by decide +kernel, by decide +kernel, by decide +kernel, by decide +kernel⟩
set_option maxRecDepth 20000 in
theorem ko_X10_3 : Cond.methodLink RX10 3 objectInit ∈ jg_ws := (jg_m1 157 rfl rfl)
set_option maxRecDepth 20000 in
theorem ks_X10_27 : jg_Sc RX10 27 mJ7_fill_53178 2 := ⟨(jg_m1 158 rfl rfl), wt_J7_fill_53178, wi_J7, wc_J7_fill_53178, by decide +kernel, by decide +kernel, by decide +kernel, by decide +kernel⟩
set_option maxRecDepth 20000 in
theorem ki_X2_31 : jg_Ic RX2 31 mX3_init 0 := ⟨(jg_m1 183 rfl rfl), wn_X3_init, rfl, rfl, wi_X3, wc_X3_init, by decide +kernel, by decide +kernel, by decide +kernel, by decide +kernel⟩
set_option maxRecDepth 20000 in
theorem ko_X3_3 : Cond.methodLink RX3 3 objectInit ∈ jg_ws := (jg_m1 186 rfl rfl)
set_option maxRecDepth 20000 in
theorem ki_X3_11 : jg_Ic RX3 11 mX0_init 6 := ⟨(jg_m1 189 rfl rfl), wn_X0_init, rfl, rfl, wi_X0, wc_X0_init, by decide +kernel, by decide +kernel, by decide +kernel, by decide +kernel⟩
set_option maxRecDepth 20000 in
theorem ko_X0_5 : Cond.methodLink RX0 5 objectInit ∈ jg_ws := (jg_m1 192 rfl rfl)
set_option maxRecDepth 20000 in
theorem ki_X2_42 : jg_Ic RX2 42 mX5_init 1 := ⟨(jg_m2 11 rfl rfl), wn_X5_init, rfl, rfl, wi_X5, wc_X5_init, by decide +kernel, by decide +kernel, by decide +kernel, by decide +kernel⟩
set_option maxRecDepth 20000 in
theorem ko_X5_3 : Cond.methodLink RX5 3 objectInit ∈ jg_ws := (jg_m2 14 rfl rfl)
set_option maxRecDepth 20000 in
theorem ko_X1_3 : Cond.methodLink RX1 3 objectInit ∈ jg_ws := (jg_m2 21 rfl rfl)
set_option maxRecDepth 20000 in
theorem ki_X5_24 : jg_Ic RX5 24 mX9_init 1 := ⟨(jg_m2 74 rfl rfl), wn_X9_init, rfl, rfl, wi_X9, wc_X9_init, by decide +kernel, by decide +kernel, by decide +kernel, by decide +kernel⟩
set_option maxRecDepth 20000 in
theorem ko_X9_3 : Cond.methodLink RX9 3 objectInit ∈ jg_ws := (jg_m2 77 rfl rfl)
set_option maxRecDepth 20000 in
theorem ki_X2_51 : jg_Ic RX2 51 mX6_init 0 := ⟨(jg_m2 216 rfl rfl), wn_X6_init, rfl, rfl, wi_X6, wc_X6_init, by decide +kernel, by decide +kernel, by decide +kernel, by decide +kernel⟩
set_option maxRecDepth 20000 in
theorem ko_X6_3 : Cond.methodLink RX6 3 objectInit ∈ jg_ws := (jg_m2 219 rfl rfl)
set_option maxRecDepth 20000 in
theorem ki_X2_58 : jg_Ic RX2 58 mX4_init 0 := ⟨(jg_m3 39 rfl rfl), wn_X4_init, rfl, rfl, wi_X4, wc_X4_init, by decide +kernel, by decide +kernel, by decide +kernel, by decide +kernel⟩
set_option maxRecDepth 20000 in
theorem ko_X4_3 : Cond.methodLink RX4 3 objectInit ∈ jg_ws := (jg_m3 42 rfl rfl)
set_option maxRecDepth 20000 in
theorem kv_L_125 : jg_Vc RL 125 mX11_feed 5 := ⟨(jg_m3 138 rfl rfl), wn_X11_feed, we_X11_feed, wi_X11, wc_X11_feed, by decide +kernel, by decide +kernel, by decide +kernel, by decide +kernel⟩
set_option maxRecDepth 20000 in
theorem kv_X11_34 : jg_Vc RX11 34 mX11_addBytes 1 := ⟨(jg_m3 142 rfl rfl), wn_X11_addBytes, we_X11_addBytes, wi_X11, wc_X11_addBytes, by decide +kernel, by decide +kernel, by decide +kernel, by decide +kernel⟩
set_option maxRecDepth 20000 in
theorem kv_L_130 : jg_Vc RL 130 mX11_end 1 := ⟨(jg_m3 146 rfl rfl), wn_X11_end, we_X11_end, wi_X11, wc_X11_end, by decide +kernel, by decide +kernel, by decide +kernel, by decide +kernel⟩
set_option maxRecDepth 20000 in
theorem kv_L_203 : jg_Vc RL 203 mX11_fault 0 := ⟨(jg_m3 150 rfl rfl), wn_X11_fault, we_X11_fault, wi_X11, wc_X11_fault, by decide +kernel, by decide +kernel, by decide +kernel, by decide +kernel⟩
set_option maxRecDepth 20000 in
theorem kv_L_232 : jg_Vc RL 232 mX11_bring 0 := ⟨(jg_m3 154 rfl rfl), wn_X11_bring, we_X11_bring, wi_X11, wc_X11_bring, by decide +kernel, by decide +kernel, by decide +kernel, by decide +kernel⟩
set_option maxRecDepth 20000 in
theorem kv_X11_388 : jg_Vc RX11 388 mX2_leastToBringIn 0 := ⟨(jg_m3 158 rfl rfl), wn_X2_leastToBringIn, we_X2_leastToBringIn, wi_X2, wc_X2_leastToBringIn, by decide +kernel, by decide +kernel, by decide +kernel, by decide +kernel⟩
set_option maxRecDepth 20000 in
theorem kv_X2_100 : jg_Vc RX2 100 mX2_actOfToday 0 := ⟨(jg_m3 162 rfl rfl), wn_X2_actOfToday, we_X2_actOfToday, wi_X2, wc_X2_actOfToday, by decide +kernel, by decide +kernel, by decide +kernel, by decide +kernel⟩
set_option maxRecDepth 20000 in
theorem kv_X2_92 : jg_Vc RX2 92 mX2_today 0 := ⟨(jg_m3 166 rfl rfl), wn_X2_today, we_X2_today, wi_X2, wc_X2_today, by decide +kernel, by decide +kernel, by decide +kernel, by decide +kernel⟩
set_option maxRecDepth 20000 in
theorem kv_X2_96 : jg_Vc RX2 96 mX3_onDay 1 := ⟨(jg_m3 170 rfl rfl), wn_X3_onDay, we_X3_onDay, wi_X3, wc_X3_onDay, by decide +kernel, by decide +kernel, by decide +kernel, by decide +kernel⟩
set_option maxRecDepth 20000 in
theorem kv_X2_104 : jg_Vc RX2 104 mX0_lastNumber 2 := ⟨(jg_m3 174 rfl rfl), wn_X0_lastNumber, we_X0_lastNumber, wi_X0, wc_X0_lastNumber, by decide +kernel, by decide +kernel, by decide +kernel, by decide +kernel⟩
set_option maxRecDepth 20000 in
theorem kv_X2_153 : jg_Vc RX2 153 mX2_fillDepths 0 := ⟨(jg_m3 178 rfl rfl), wn_X2_fillDepths, we_X2_fillDepths, wi_X2, wc_X2_fillDepths, by decide +kernel, by decide +kernel, by decide +kernel, by decide +kernel⟩
set_option maxRecDepth 20000 in
theorem kv_X2_338 : jg_Vc RX2 338 mX4_beginBringing 0 := ⟨(jg_m3 182 rfl rfl), wn_X4_beginBringing, we_X4_beginBringing, wi_X4, wc_X4_beginBringing, by decide +kernel, by decide +kernel, by decide +kernel, by decide +kernel⟩
set_option maxRecDepth 20000 in
theorem ks_X4_66 : jg_Sc RX4 66 mJ7_fill_53178 2 := ⟨(jg_m3 187 rfl rfl), wt_J7_fill_53178, wi_J7, wc_J7_fill_53178, by decide +kernel, by decide +kernel, by decide +kernel, by decide +kernel⟩
set_option maxRecDepth 20000 in
theorem kv_X2_341 : jg_Vc RX2 341 mX5_nextInTurn 2 := ⟨(jg_m3 188 rfl rfl), wn_X5_nextInTurn, we_X5_nextInTurn, wi_X5, wc_X5_nextInTurn, by decide +kernel, by decide +kernel, by decide +kernel, by decide +kernel⟩
set_option maxRecDepth 20000 in
theorem kv_X5_91 : jg_Vc RX5 91 mX5_isAhead 3 := ⟨(jg_m3 192 rfl rfl), wn_X5_isAhead, we_X5_isAhead, wi_X5, wc_X5_isAhead, by decide +kernel, by decide +kernel, by decide +kernel, by decide +kernel⟩
set_option maxRecDepth 20000 in
theorem kv_X5_87 : jg_Vc RX5 87 mX9_turnValue 1 := ⟨(jg_m3 196 rfl rfl), wn_X9_turnValue, we_X9_turnValue, wi_X9, wc_X9_turnValue, by decide +kernel, by decide +kernel, by decide +kernel, by decide +kernel⟩
set_option maxRecDepth 20000 in
theorem kv_X9_75 : jg_Vc RX9 75 mX9_keyValue 1 := ⟨(jg_m3 200 rfl rfl), wn_X9_keyValue, we_X9_keyValue, wi_X9, wc_X9_keyValue, by decide +kernel, by decide +kernel, by decide +kernel, by decide +kernel⟩
set_option maxRecDepth 20000 in
theorem kv_X2_344 : jg_Vc RX2 344 mX4_addWaiting 2 := ⟨(jg_m3 204 rfl rfl), wn_X4_addWaiting, we_X4_addWaiting, wi_X4, wc_X4_addWaiting, by decide +kernel, by decide +kernel, by decide +kernel, by decide +kernel⟩
set_option maxRecDepth 20000 in
theorem kv_X2_238 : jg_Vc RX2 238 mX8_fillWaysIn 3 := ⟨(jg_m3 208 rfl rfl), wn_X8_fillWaysIn, we_X8_fillWaysIn, wi_X8, wc_X8_fillWaysIn, by decide +kernel, by decide +kernel, by decide +kernel, by decide +kernel⟩
set_option maxRecDepth 20000 in
theorem km_X8_65 : Cond.methodLink RX8 65 yJ9_min_7cf53 ∈ jg_ws := (jg_m3 212 rfl rfl)
set_option maxRecDepth 20000 in
theorem kv_X2_254 : jg_Vc RX2 254 mX1_isClosed 0 := ⟨(jg_m3 215 rfl rfl), wn_X1_isClosed, we_X1_isClosed, wi_X1, wc_X1_isClosed, by decide +kernel, by decide +kernel, by decide +kernel, by decide +kernel⟩
set_option maxRecDepth 20000 in
theorem kv_X1_39 : jg_Vc RX1 39 mX1_sunk 0 := ⟨(jg_m3 219 rfl rfl), wn_X1_sunk, we_X1_sunk, wi_X1, wc_X1_sunk, by decide +kernel, by decide +kernel, by decide +kernel, by decide +kernel⟩
set_option maxRecDepth 20000 in
theorem kv_X2_350 : jg_Vc RX2 350 mX4_useBerth 1 := ⟨(jg_m3 223 rfl rfl), wn_X4_useBerth, we_X4_useBerth, wi_X4, wc_X4_useBerth, by decide +kernel, by decide +kernel, by decide +kernel, by decide +kernel⟩
set_option maxRecDepth 20000 in
theorem kv_X4_94 : jg_Vc RX4 94 mX4_layOn 4 := ⟨(jg_m3 227 rfl rfl), wn_X4_layOn, we_X4_layOn, wi_X4, wc_X4_layOn, by decide +kernel, by decide +kernel, by decide +kernel, by decide +kernel⟩
set_option maxRecDepth 20000 in
theorem km_X4_102 : Cond.methodLink RX4 102 yJ9_min_7cf53 ∈ jg_ws := (jg_m3 231 rfl rfl)
set_option maxRecDepth 20000 in
theorem kv_X4_107 : jg_Vc RX4 107 mX4_firstBegin 3 := ⟨(jg_m3 232 rfl rfl), wn_X4_firstBegin, we_X4_firstBegin, wi_X4, wc_X4_firstBegin, by decide +kernel, by decide +kernel, by decide +kernel, by decide +kernel⟩
set_option maxRecDepth 20000 in
theorem kv_X4_98 : jg_Vc RX4 98 mX4_joinSets 1 := ⟨(jg_m3 236 rfl rfl), wn_X4_joinSets, we_X4_joinSets, wi_X4, wc_X4_joinSets, by decide +kernel, by decide +kernel, by decide +kernel, by decide +kernel⟩
set_option maxRecDepth 20000 in
theorem kv_X2_354 : jg_Vc RX2 354 mX4_leastSum 0 := ⟨(jg_m4 0 rfl rfl), wn_X4_leastSum, we_X4_leastSum, wi_X4, wc_X4_leastSum, by decide +kernel, by decide +kernel, by decide +kernel, by decide +kernel⟩
set_option maxRecDepth 20000 in
theorem kv_L_248 : jg_Vc RL 248 mX11_keep 0 := ⟨(jg_m4 4 rfl rfl), wn_X11_keep, we_X11_keep, wi_X11, wc_X11_keep, by decide +kernel, by decide +kernel, by decide +kernel, by decide +kernel⟩
set_option maxRecDepth 20000 in
theorem kv_X11_412 : jg_Vc RX11 412 mX2_copyFrom 1 := ⟨(jg_m4 8 rfl rfl), wn_X2_copyFrom, we_X2_copyFrom, wi_X2, wc_X2_copyFrom, by decide +kernel, by decide +kernel, by decide +kernel, by decide +kernel⟩
set_option maxRecDepth 20000 in
theorem kv_X2_73 : jg_Vc RX2 73 mX8_copyFrom 1 := ⟨(jg_m4 12 rfl rfl), wn_X8_copyFrom, we_X8_copyFrom, wi_X8, wc_X8_copyFrom, by decide +kernel, by decide +kernel, by decide +kernel, by decide +kernel⟩
set_option maxRecDepth 20000 in
theorem km_X11_484 : Cond.methodLink RX11 484 yJ9_min_7cf53 ∈ jg_ws := (jg_m4 19 rfl rfl)
set_option maxRecDepth 20000 in
theorem kv_X2_77 : jg_Vc RX2 77 mX10_copyFrom 1 := ⟨(jg_m4 23 rfl rfl), wn_X10_copyFrom, we_X10_copyFrom, wi_X10, wc_X10_copyFrom, by decide +kernel, by decide +kernel, by decide +kernel, by decide +kernel⟩
set_option maxRecDepth 20000 in
theorem kv_X2_80 : jg_Vc RX2 80 mX5_copyFrom 1 := ⟨(jg_m4 28 rfl rfl), wn_X5_copyFrom, we_X5_copyFrom, wi_X5, wc_X5_copyFrom, by decide +kernel, by decide +kernel, by decide +kernel, by decide +kernel⟩
set_option maxRecDepth 20000 in
theorem kv_X5_41 : jg_Vc RX5 41 mX1_copyFrom 1 := ⟨(jg_m4 32 rfl rfl), wn_X1_copyFrom, we_X1_copyFrom, wi_X1, wc_X1_copyFrom, by decide +kernel, by decide +kernel, by decide +kernel, by decide +kernel⟩
set_option maxRecDepth 20000 in
theorem kv_X5_48 : jg_Vc RX5 48 mX9_copyFrom 1 := ⟨(jg_m4 36 rfl rfl), wn_X9_copyFrom, we_X9_copyFrom, wi_X9, wc_X9_copyFrom, by decide +kernel, by decide +kernel, by decide +kernel, by decide +kernel⟩
set_option maxRecDepth 20000 in
theorem kv_X9_59 : jg_Vc RX9 59 mX9_build 4 := ⟨(jg_m4 40 rfl rfl), wn_X9_build, we_X9_build, wi_X9, wc_X9_build, by decide +kernel, by decide +kernel, by decide +kernel, by decide +kernel⟩
set_option maxRecDepth 20000 in
theorem kv_X2_83 : jg_Vc RX2 83 mX6_copyFrom 1 := ⟨(jg_m4 45 rfl rfl), wn_X6_copyFrom, we_X6_copyFrom, wi_X6, wc_X6_copyFrom, by decide +kernel, by decide +kernel, by decide +kernel, by decide +kernel⟩
set_option maxRecDepth 20000 in
theorem kv_X2_86 : jg_Vc RX2 86 mX3_copyFrom 1 := ⟨(jg_m4 50 rfl rfl), wn_X3_copyFrom, we_X3_copyFrom, wi_X3, wc_X3_copyFrom, by decide +kernel, by decide +kernel, by decide +kernel, by decide +kernel⟩
set_option maxRecDepth 20000 in
theorem kv_X2_89 : jg_Vc RX2 89 mX4_copyFrom 1 := ⟨(jg_m4 55 rfl rfl), wn_X4_copyFrom, we_X4_copyFrom, wi_X4, wc_X4_copyFrom, by decide +kernel, by decide +kernel, by decide +kernel, by decide +kernel⟩
set_option maxRecDepth 20000 in
theorem kv_L_252 : jg_Vc RL 252 mX11_again 0 := ⟨(jg_m4 60 rfl rfl), wn_X11_again, we_X11_again, wi_X11, wc_X11_again, by decide +kernel, by decide +kernel, by decide +kernel, by decide +kernel⟩
set_option maxRecDepth 20000 in
theorem kv_L_256 : jg_Vc RL 256 mX11_count 1 := ⟨(jg_m4 64 rfl rfl), wn_X11_count, we_X11_count, wi_X11, wc_X11_count, by decide +kernel, by decide +kernel, by decide +kernel, by decide +kernel⟩
set_option maxRecDepth 20000 in
theorem kv_X11_71 : jg_Vc RX11 71 mX2_today 0 := ⟨(jg_m4 68 rfl rfl), wn_X2_today, we_X2_today, wi_X2, wc_X2_today, by decide +kernel, by decide +kernel, by decide +kernel, by decide +kernel⟩
set_option maxRecDepth 20000 in
theorem kv_X11_362 : jg_Vc RX11 362 mX2_year 0 := ⟨(jg_m4 69 rfl rfl), wn_X2_year, we_X2_year, wi_X2, wc_X2_year, by decide +kernel, by decide +kernel, by decide +kernel, by decide +kernel⟩
set_option maxRecDepth 20000 in
theorem kv_X11_416 : jg_Vc RX11 416 mX5_countInState 1 := ⟨(jg_m4 73 rfl rfl), wn_X5_countInState, we_X5_countInState, wi_X5, wc_X5_countInState, by decide +kernel, by decide +kernel, by decide +kernel, by decide +kernel⟩
set_option maxRecDepth 20000 in
theorem kv_X11_419 : jg_Vc RX11 419 mX5_freePilots 0 := ⟨(jg_m4 77 rfl rfl), wn_X5_freePilots, we_X5_freePilots, wi_X5, wc_X5_freePilots, by decide +kernel, by decide +kernel, by decide +kernel, by decide +kernel⟩
set_option maxRecDepth 20000 in
theorem km_X5_62 : Cond.methodLink RX5 62 yJ9_max_7cf53 ∈ jg_ws := (jg_m4 81 rfl rfl)
set_option maxRecDepth 20000 in
theorem kv_X11_422 : jg_Vc RX11 422 mX5_loadOfAll 0 := ⟨(jg_m4 84 rfl rfl), wn_X5_loadOfAll, we_X5_loadOfAll, wi_X5, wc_X5_loadOfAll, by decide +kernel, by decide +kernel, by decide +kernel, by decide +kernel⟩
set_option maxRecDepth 20000 in
theorem kv_X11_431 : jg_Vc RX11 431 mX11_countMore 1 := ⟨(jg_m4 88 rfl rfl), wn_X11_countMore, we_X11_countMore, wi_X11, wc_X11_countMore, by decide +kernel, by decide +kernel, by decide +kernel, by decide +kernel⟩
set_option maxRecDepth 20000 in
theorem kv_X11_437 : jg_Vc RX11 437 mX5_countTouches 0 := ⟨(jg_m4 92 rfl rfl), wn_X5_countTouches, we_X5_countTouches, wi_X5, wc_X5_countTouches, by decide +kernel, by decide +kernel, by decide +kernel, by decide +kernel⟩
set_option maxRecDepth 20000 in
theorem kv_X11_179 : jg_Vc RX11 179 mX2_actOfToday 0 := ⟨(jg_m4 96 rfl rfl), wn_X2_actOfToday, we_X2_actOfToday, wi_X2, wc_X2_actOfToday, by decide +kernel, by decide +kernel, by decide +kernel, by decide +kernel⟩
set_option maxRecDepth 20000 in
theorem kv_X11_452 : jg_Vc RX11 452 mX6_owedInAll 0 := ⟨(jg_m4 97 rfl rfl), wn_X6_owedInAll, we_X6_owedInAll, wi_X6, wc_X6_owedInAll, by decide +kernel, by decide +kernel, by decide +kernel, by decide +kernel⟩
set_option maxRecDepth 20000 in
theorem ks_X11_455 : jg_Sc RX11 455 mX11_sumOf 1 := ⟨(jg_m4 101 rfl rfl), wt_X11_sumOf, wi_X11, wc_X11_sumOf, by decide +kernel, by decide +kernel, by decide +kernel, by decide +kernel⟩
set_option maxRecDepth 20000 in
theorem kv_L_7 : jg_Vc RL 7 mX11_river 4 := ⟨(jg_m4 110 rfl rfl), wn_X11_river, we_X11_river, wi_X11, wc_X11_river, by decide +kernel, by decide +kernel, by decide +kernel, by decide +kernel⟩
set_option maxRecDepth 20000 in
theorem ks_X11_38 : jg_Sc RX11 38 mX11_needCell 1 := ⟨(jg_m4 114 rfl rfl), wt_X11_needCell, wi_X11, wc_X11_needCell, by decide +kernel, by decide +kernel, by decide +kernel, by decide +kernel⟩
set_option maxRecDepth 20000 in
theorem ks_X11_90 : jg_Sc RX11 90 mX11_needIndex 2 := ⟨(jg_m4 117 rfl rfl), wt_X11_needIndex, wi_X11, wc_X11_needIndex, by decide +kernel, by decide +kernel, by decide +kernel, by decide +kernel⟩
set_option maxRecDepth 20000 in
theorem ks_X11_41 : jg_Sc RX11 41 mX11_within 3 := ⟨(jg_m4 189 rfl rfl), wt_X11_within, wi_X11, wc_X11_within, by decide +kernel, by decide +kernel, by decide +kernel, by decide +kernel⟩
set_option maxRecDepth 20000 in
theorem ks_X11_45 : jg_Sc RX11 45 mX11_needArgument 1 := ⟨(jg_m4 192 rfl rfl), wt_X11_needArgument, wi_X11, wc_X11_needArgument, by decide +kernel, by decide +kernel, by decide +kernel, by decide +kernel⟩
set_option maxRecDepth 20000 in
theorem ks_X11_52 : jg_Sc RX11 52 mX11_needState 1 := ⟨(jg_m4 211 rfl rfl), wt_X11_needState, wi_X11, wc_X11_needState, by decide +kernel, by decide +kernel, by decide +kernel, by decide +kernel⟩
set_option maxRecDepth 20000 in
theorem kv_L_19 : jg_Vc RL 19 mX11_tide 2 := ⟨(jg_m4 233 rfl rfl), wn_X11_tide, we_X11_tide, wi_X11, wc_X11_tide, by decide +kernel, by decide +kernel, by decide +kernel, by decide +kernel⟩
set_option maxRecDepth 20000 in
theorem kv_L_23 : jg_Vc RL 23 mX11_run 2 := ⟨(jg_m5 0 rfl rfl), wn_X11_run, we_X11_run, wi_X11, wc_X11_run, by decide +kernel, by decide +kernel, by decide +kernel, by decide +kernel⟩
set_option maxRecDepth 20000 in
theorem kv_X11_75 : jg_Vc RX11 75 mX8_tellRun 2 := ⟨(jg_m5 4 rfl rfl), wn_X8_tellRun, we_X8_tellRun, wi_X8, wc_X8_tellRun, by decide +kernel, by decide +kernel, by decide +kernel, by decide +kernel⟩
set_option maxRecDepth 20000 in
theorem kv_L_27 : jg_Vc RL 27 mX11_dredger 1 := ⟨(jg_m5 12 rfl rfl), wn_X11_dredger, we_X11_dredger, wi_X11, wc_X11_dredger, by decide +kernel, by decide +kernel, by decide +kernel, by decide +kernel⟩
set_option maxRecDepth 20000 in
theorem ks_X11_82 : jg_Sc RX11 82 mX11_needRoom 2 := ⟨(jg_m5 16 rfl rfl), wt_X11_needRoom, wi_X11, wc_X11_needRoom, by decide +kernel, by decide +kernel, by decide +kernel, by decide +kernel⟩
set_option maxRecDepth 20000 in
theorem kv_X11_86 : jg_Vc RX11 86 mX8_addDredger 1 := ⟨(jg_m5 35 rfl rfl), wn_X8_addDredger, we_X8_addDredger, wi_X8, wc_X8_addDredger, by decide +kernel, by decide +kernel, by decide +kernel, by decide +kernel⟩
set_option maxRecDepth 20000 in
theorem kv_L_33 : jg_Vc RL 33 mX11_station 3 := ⟨(jg_m5 42 rfl rfl), wn_X11_station, we_X11_station, wi_X11, wc_X11_station, by decide +kernel, by decide +kernel, by decide +kernel, by decide +kernel⟩
set_option maxRecDepth 20000 in
theorem ks_X11_93 : jg_Sc RX11 93 mX11_needCellOrNone 1 := ⟨(jg_m5 46 rfl rfl), wt_X11_needCellOrNone, wi_X11, wc_X11_needCellOrNone, by decide +kernel, by decide +kernel, by decide +kernel, by decide +kernel⟩
set_option maxRecDepth 20000 in
theorem kv_X11_96 : jg_Vc RX11 96 mX8_send 3 := ⟨(jg_m5 49 rfl rfl), wn_X8_send, we_X8_send, wi_X8, wc_X8_send, by decide +kernel, by decide +kernel, by decide +kernel, by decide +kernel⟩
set_option maxRecDepth 20000 in
theorem kv_L_37 : jg_Vc RL 37 mX11_cell 2 := ⟨(jg_m5 57 rfl rfl), wn_X11_cell, we_X11_cell, wi_X11, wc_X11_cell, by decide +kernel, by decide +kernel, by decide +kernel, by decide +kernel⟩
set_option maxRecDepth 20000 in
theorem kv_X11_102 : jg_Vc RX11 102 mX2_depthAsOf 2 := ⟨(jg_m5 61 rfl rfl), wn_X2_depthAsOf, we_X2_depthAsOf, wi_X2, wc_X2_depthAsOf, by decide +kernel, by decide +kernel, by decide +kernel, by decide +kernel⟩
set_option maxRecDepth 20000 in
theorem kv_X2_143 : jg_Vc RX2 143 mX10_latest 2 := ⟨(jg_m5 65 rfl rfl), wn_X10_latest, we_X10_latest, wi_X10, wc_X10_latest, by decide +kernel, by decide +kernel, by decide +kernel, by decide +kernel⟩
set_option maxRecDepth 20000 in
theorem kv_L_42 : jg_Vc RL 42 mX11_sound 3 := ⟨(jg_m5 88 rfl rfl), wn_X11_sound, we_X11_sound, wi_X11, wc_X11_sound, by decide +kernel, by decide +kernel, by decide +kernel, by decide +kernel⟩
set_option maxRecDepth 20000 in
theorem kv_X11_116 : jg_Vc RX11 116 mX10_tell 4 := ⟨(jg_m5 92 rfl rfl), wn_X10_tell, we_X10_tell, wi_X10, wc_X10_tell, by decide +kernel, by decide +kernel, by decide +kernel, by decide +kernel⟩
set_option maxRecDepth 20000 in
theorem kv_X10_41 : jg_Vc RX10 41 mX10_latest 2 := ⟨(jg_m5 96 rfl rfl), wn_X10_latest, we_X10_latest, wi_X10, wc_X10_latest, by decide +kernel, by decide +kernel, by decide +kernel, by decide +kernel⟩
set_option maxRecDepth 20000 in
theorem kv_L_46 : jg_Vc RL 46 mX11_known 2 := ⟨(jg_m5 100 rfl rfl), wn_X11_known, we_X11_known, wi_X11, wc_X11_known, by decide +kernel, by decide +kernel, by decide +kernel, by decide +kernel⟩
set_option maxRecDepth 20000 in
theorem kv_L_49 : jg_Vc RL 49 mX11_berth 4 := ⟨(jg_m5 107 rfl rfl), wn_X11_berth, we_X11_berth, wi_X11, wc_X11_berth, by decide +kernel, by decide +kernel, by decide +kernel, by decide +kernel⟩
set_option maxRecDepth 20000 in
theorem kv_X11_132 : jg_Vc RX11 132 mX5_addBerth 4 := ⟨(jg_m5 112 rfl rfl), wn_X5_addBerth, we_X5_addBerth, wi_X5, wc_X5_addBerth, by decide +kernel, by decide +kernel, by decide +kernel, by decide +kernel⟩
set_option maxRecDepth 20000 in
theorem kv_X5_58 : jg_Vc RX5 58 mX1_build 4 := ⟨(jg_m5 116 rfl rfl), wn_X1_build, we_X1_build, wi_X1, wc_X1_build, by decide +kernel, by decide +kernel, by decide +kernel, by decide +kernel⟩
set_option maxRecDepth 20000 in
theorem kv_L_53 : jg_Vc RL 53 mX11_hands 2 := ⟨(jg_m5 123 rfl rfl), wn_X11_hands, we_X11_hands, wi_X11, wc_X11_hands, by decide +kernel, by decide +kernel, by decide +kernel, by decide +kernel⟩
set_option maxRecDepth 20000 in
theorem kv_L_56 : jg_Vc RL 56 mX11_payer 0 := ⟨(jg_m5 130 rfl rfl), wn_X11_payer, we_X11_payer, wi_X11, wc_X11_payer, by decide +kernel, by decide +kernel, by decide +kernel, by decide +kernel⟩
set_option maxRecDepth 20000 in
theorem kv_X11_150 : jg_Vc RX11 150 mX6_addPayer 0 := ⟨(jg_m5 134 rfl rfl), wn_X6_addPayer, we_X6_addPayer, wi_X6, wc_X6_addPayer, by decide +kernel, by decide +kernel, by decide +kernel, by decide +kernel⟩
set_option maxRecDepth 20000 in
theorem kv_L_60 : jg_Vc RL 60 mX11_ship 8 := ⟨(jg_m5 141 rfl rfl), wn_X11_ship, we_X11_ship, wi_X11, wc_X11_ship, by decide +kernel, by decide +kernel, by decide +kernel, by decide +kernel⟩
set_option maxRecDepth 20000 in
theorem kv_X11_161 : jg_Vc RX11 161 mX9_build 4 := ⟨(jg_m5 146 rfl rfl), wn_X9_build, we_X9_build, wi_X9, wc_X9_build, by decide +kernel, by decide +kernel, by decide +kernel, by decide +kernel⟩
set_option maxRecDepth 20000 in
theorem kv_X11_183 : jg_Vc RX11 183 mX9_come 2 := ⟨(jg_m5 147 rfl rfl), wn_X9_come, we_X9_come, wi_X9, wc_X9_come, by decide +kernel, by decide +kernel, by decide +kernel, by decide +kernel⟩
set_option maxRecDepth 20000 in
theorem kv_L_64 : jg_Vc RL 64 mX11_hours 1 := ⟨(jg_m5 154 rfl rfl), wn_X11_hours, we_X11_hours, wi_X11, wc_X11_hours, by decide +kernel, by decide +kernel, by decide +kernel, by decide +kernel⟩
set_option maxRecDepth 20000 in
theorem kv_X11_187 : jg_Vc RX11 187 mX2_passHour 0 := ⟨(jg_m5 158 rfl rfl), wn_X2_passHour, we_X2_passHour, wi_X2, wc_X2_passHour, by decide +kernel, by decide +kernel, by decide +kernel, by decide +kernel⟩
set_option maxRecDepth 20000 in
theorem kv_X2_110 : jg_Vc RX2 110 mX5_nextHourOfPilots 0 := ⟨(jg_m5 162 rfl rfl), wn_X5_nextHourOfPilots, we_X5_nextHourOfPilots, wi_X5, wc_X5_nextHourOfPilots, by decide +kernel, by decide +kernel, by decide +kernel, by decide +kernel⟩
set_option maxRecDepth 20000 in
theorem kv_X2_113 : jg_Vc RX2 113 mX5_arrive 1 := ⟨(jg_m5 166 rfl rfl), wn_X5_arrive, we_X5_arrive, wi_X5, wc_X5_arrive, by decide +kernel, by decide +kernel, by decide +kernel, by decide +kernel⟩
set_option maxRecDepth 20000 in
theorem kv_X5_95 : jg_Vc RX5 95 mX5_holderOf 1 := ⟨(jg_m5 170 rfl rfl), wn_X5_holderOf, we_X5_holderOf, wi_X5, wc_X5_holderOf, by decide +kernel, by decide +kernel, by decide +kernel, by decide +kernel⟩
set_option maxRecDepth 20000 in
theorem kv_X2_117 : jg_Vc RX2 117 mX5_hasInState 1 := ⟨(jg_m5 174 rfl rfl), wn_X5_hasInState, we_X5_hasInState, wi_X5, wc_X5_hasInState, by decide +kernel, by decide +kernel, by decide +kernel, by decide +kernel⟩
set_option maxRecDepth 20000 in
theorem kv_X2_121 : jg_Vc RX2 121 mX2_shipsLeave 1 := ⟨(jg_m5 178 rfl rfl), wn_X2_shipsLeave, we_X2_shipsLeave, wi_X2, wc_X2_shipsLeave, by decide +kernel, by decide +kernel, by decide +kernel, by decide +kernel⟩
set_option maxRecDepth 20000 in
theorem kv_X2_168 : jg_Vc RX2 168 mX5_freePilots 0 := ⟨(jg_m5 182 rfl rfl), wn_X5_freePilots, we_X5_freePilots, wi_X5, wc_X5_freePilots, by decide +kernel, by decide +kernel, by decide +kernel, by decide +kernel⟩
set_option maxRecDepth 20000 in
theorem kv_X2_174 : jg_Vc RX2 174 mX5_cellOf 1 := ⟨(jg_m5 183 rfl rfl), wn_X5_cellOf, we_X5_cellOf, wi_X5, wc_X5_cellOf, by decide +kernel, by decide +kernel, by decide +kernel, by decide +kernel⟩
set_option maxRecDepth 20000 in
theorem kv_X2_181 : jg_Vc RX2 181 mX8_bears 5 := ⟨(jg_m5 187 rfl rfl), wn_X8_bears, we_X8_bears, wi_X8, wc_X8_bears, by decide +kernel, by decide +kernel, by decide +kernel, by decide +kernel⟩
set_option maxRecDepth 20000 in
theorem kv_X2_185 : jg_Vc RX2 185 mX2_leave 2 := ⟨(jg_m5 191 rfl rfl), wn_X2_leave, we_X2_leave, wi_X2, wc_X2_leave, by decide +kernel, by decide +kernel, by decide +kernel, by decide +kernel⟩
set_option maxRecDepth 20000 in
theorem kv_X2_198 : jg_Vc RX2 198 mX2_stayOf 1 := ⟨(jg_m5 195 rfl rfl), wn_X2_stayOf, we_X2_stayOf, wi_X2, wc_X2_stayOf, by decide +kernel, by decide +kernel, by decide +kernel, by decide +kernel⟩
set_option maxRecDepth 20000 in
theorem kv_X2_202 : jg_Vc RX2 202 mX2_dueBy 3 := ⟨(jg_m5 199 rfl rfl), wn_X2_dueBy, we_X2_dueBy, wi_X2, wc_X2_dueBy, by decide +kernel, by decide +kernel, by decide +kernel, by decide +kernel⟩
set_option maxRecDepth 20000 in
theorem kv_X2_298 : jg_Vc RX2 298 mX2_askOfShip 2 := ⟨(jg_m5 203 rfl rfl), wn_X2_askOfShip, we_X2_askOfShip, wi_X2, wc_X2_askOfShip, by decide +kernel, by decide +kernel, by decide +kernel, by decide +kernel⟩
set_option maxRecDepth 20000 in
theorem kv_X2_301 : jg_Vc RX2 301 mX0_sum 2 := ⟨(jg_m5 207 rfl rfl), wn_X0_sum, we_X0_sum, wi_X0, wc_X0_sum, by decide +kernel, by decide +kernel, by decide +kernel, by decide +kernel⟩
set_option maxRecDepth 20000 in
theorem kv_X0_31 : jg_Vc RX0 31 mX0_holds 2 := ⟨(jg_m5 211 rfl rfl), wn_X0_holds, we_X0_holds, wi_X0, wc_X0_holds, by decide +kernel, by decide +kernel, by decide +kernel, by decide +kernel⟩
set_option maxRecDepth 20000 in
theorem km_X11_478 : Cond.methodLink RX11 478 yJ9_min_f86c9 ∈ jg_ws := (jg_m5 219 rfl rfl)
set_option maxRecDepth 20000 in
theorem kv_X2_212 : jg_Vc RX2 212 mX5_freeBerth 1 := ⟨(jg_m5 222 rfl rfl), wn_X5_freeBerth, we_X5_freeBerth, wi_X5, wc_X5_freeBerth, by decide +kernel, by decide +kernel, by decide +kernel, by decide +kernel⟩
set_option maxRecDepth 20000 in
theorem kv_X2_215 : jg_Vc RX2 215 mX5_takePilot 1 := ⟨(jg_m5 226 rfl rfl), wn_X5_takePilot, we_X5_takePilot, wi_X5, wc_X5_takePilot, by decide +kernel, by decide +kernel, by decide +kernel, by decide +kernel⟩
set_option maxRecDepth 20000 in
theorem kv_X2_221 : jg_Vc RX2 221 mX6_takeDue 2 := ⟨(jg_m5 230 rfl rfl), wn_X6_takeDue, we_X6_takeDue, wi_X6, wc_X6_takeDue, by decide +kernel, by decide +kernel, by decide +kernel, by decide +kernel⟩
set_option maxRecDepth 20000 in
theorem kv_X2_124 : jg_Vc RX2 124 mX2_shipsComeIn 2 := ⟨(jg_m5 235 rfl rfl), wn_X2_shipsComeIn, we_X2_shipsComeIn, wi_X2, wc_X2_shipsComeIn, by decide +kernel, by decide +kernel, by decide +kernel, by decide +kernel⟩
set_option maxRecDepth 20000 in
theorem kv_X2_224 : jg_Vc RX2 224 mX2_deepestWayIn 0 := ⟨(jg_m5 239 rfl rfl), wn_X2_deepestWayIn, we_X2_deepestWayIn, wi_X2, wc_X2_deepestWayIn, by decide +kernel, by decide +kernel, by decide +kernel, by decide +kernel⟩
set_option maxRecDepth 20000 in
theorem km_X2_264 : Cond.methodLink RX2 264 yJ9_max_7cf53 ∈ jg_ws := (jg_m6 3 rfl rfl)
set_option maxRecDepth 20000 in
theorem kv_X2_227 : jg_Vc RX2 227 mX2_firstThatCanComeIn 3 := ⟨(jg_m6 4 rfl rfl), wn_X2_firstThatCanComeIn, we_X2_firstThatCanComeIn, wi_X2, wc_X2_firstThatCanComeIn, by decide +kernel, by decide +kernel, by decide +kernel, by decide +kernel⟩
set_option maxRecDepth 20000 in
theorem kv_X2_272 : jg_Vc RX2 272 mX5_isAhead 3 := ⟨(jg_m6 8 rfl rfl), wn_X5_isAhead, we_X5_isAhead, wi_X5, wc_X5_isAhead, by decide +kernel, by decide +kernel, by decide +kernel, by decide +kernel⟩
set_option maxRecDepth 20000 in
theorem kv_X2_231 : jg_Vc RX2 231 mX5_firstBerthFor 2 := ⟨(jg_m6 9 rfl rfl), wn_X5_firstBerthFor, we_X5_firstBerthFor, wi_X5, wc_X5_firstBerthFor, by decide +kernel, by decide +kernel, by decide +kernel, by decide +kernel⟩
set_option maxRecDepth 20000 in
theorem kv_X2_235 : jg_Vc RX2 235 mX2_comeIn 2 := ⟨(jg_m6 13 rfl rfl), wn_X2_comeIn, we_X2_comeIn, wi_X2, wc_X2_comeIn, by decide +kernel, by decide +kernel, by decide +kernel, by decide +kernel⟩
set_option maxRecDepth 20000 in
theorem kv_X2_279 : jg_Vc RX2 279 mX1_take 1 := ⟨(jg_m6 17 rfl rfl), wn_X1_take, we_X1_take, wi_X1, wc_X1_take, by decide +kernel, by decide +kernel, by decide +kernel, by decide +kernel⟩
set_option maxRecDepth 20000 in
theorem kv_X2_128 : jg_Vc RX2 128 mX5_unload 0 := ⟨(jg_m6 21 rfl rfl), wn_X5_unload, we_X5_unload, wi_X5, wc_X5_unload, by decide +kernel, by decide +kernel, by decide +kernel, by decide +kernel⟩
set_option maxRecDepth 20000 in
theorem km_X5_108 : Cond.methodLink RX5 108 yJ9_min_7cf53 ∈ jg_ws := (jg_m6 25 rfl rfl)
set_option maxRecDepth 20000 in
theorem kv_X2_131 : jg_Vc RX2 131 mX5_cart 0 := ⟨(jg_m6 26 rfl rfl), wn_X5_cart, we_X5_cart, wi_X5, wc_X5_cart, by decide +kernel, by decide +kernel, by decide +kernel, by decide +kernel⟩
set_option maxRecDepth 20000 in
theorem kv_X5_117 : jg_Vc RX5 117 mX5_fullestBerth 0 := ⟨(jg_m6 30 rfl rfl), wn_X5_fullestBerth, we_X5_fullestBerth, wi_X5, wc_X5_fullestBerth, by decide +kernel, by decide +kernel, by decide +kernel, by decide +kernel⟩
set_option maxRecDepth 20000 in
theorem kv_X2_134 : jg_Vc RX2 134 mX5_weigh 0 := ⟨(jg_m6 34 rfl rfl), wn_X5_weigh, we_X5_weigh, wi_X5, wc_X5_weigh, by decide +kernel, by decide +kernel, by decide +kernel, by decide +kernel⟩
set_option maxRecDepth 20000 in
theorem kv_X2_137 : jg_Vc RX2 137 mX8_endDay 1 := ⟨(jg_m6 38 rfl rfl), wn_X8_endDay, we_X8_endDay, wi_X8, wc_X8_endDay, by decide +kernel, by decide +kernel, by decide +kernel, by decide +kernel⟩
set_option maxRecDepth 20000 in
theorem kv_X8_71 : jg_Vc RX8 71 mX8_runOf 1 := ⟨(jg_m6 42 rfl rfl), wn_X8_runOf, we_X8_runOf, wi_X8, wc_X8_runOf, by decide +kernel, by decide +kernel, by decide +kernel, by decide +kernel⟩
set_option maxRecDepth 20000 in
theorem kv_X8_75 : jg_Vc RX8 75 mX8_silt 1 := ⟨(jg_m6 46 rfl rfl), wn_X8_silt, we_X8_silt, wi_X8, wc_X8_silt, by decide +kernel, by decide +kernel, by decide +kernel, by decide +kernel⟩
set_option maxRecDepth 20000 in
theorem km_X8_82 : Cond.methodLink RX8 82 yJ9_max_7cf53 ∈ jg_ws := (jg_m6 50 rfl rfl)
set_option maxRecDepth 20000 in
theorem kv_X8_79 : jg_Vc RX8 79 mX8_dig 1 := ⟨(jg_m6 51 rfl rfl), wn_X8_dig, we_X8_dig, wi_X8, wc_X8_dig, by decide +kernel, by decide +kernel, by decide +kernel, by decide +kernel⟩
set_option maxRecDepth 20000 in
theorem kv_X2_140 : jg_Vc RX2 140 mX6_endYear 1 := ⟨(jg_m6 55 rfl rfl), wn_X6_endYear, we_X6_endYear, wi_X6, wc_X6_endYear, by decide +kernel, by decide +kernel, by decide +kernel, by decide +kernel⟩
set_option maxRecDepth 20000 in
theorem kv_X6_69 : jg_Vc RX6 69 mX6_payRank 1 := ⟨(jg_m6 59 rfl rfl), wn_X6_payRank, we_X6_payRank, wi_X6, wc_X6_payRank, by decide +kernel, by decide +kernel, by decide +kernel, by decide +kernel⟩
set_option maxRecDepth 20000 in
theorem km_X6_63 : Cond.methodLink RX6 63 yJ9_min_7cf53 ∈ jg_ws := (jg_m6 63 rfl rfl)
set_option maxRecDepth 20000 in
theorem kv_L_67 : jg_Vc RL 67 mX11_led 2 := ⟨(jg_m6 67 rfl rfl), wn_X11_led, we_X11_led, wi_X11, wc_X11_led, by decide +kernel, by decide +kernel, by decide +kernel, by decide +kernel⟩
set_option maxRecDepth 20000 in
theorem kv_X11_215 : jg_Vc RX11 215 mX2_stayOf 1 := ⟨(jg_m6 71 rfl rfl), wn_X2_stayOf, we_X2_stayOf, wi_X2, wc_X2_stayOf, by decide +kernel, by decide +kernel, by decide +kernel, by decide +kernel⟩
set_option maxRecDepth 20000 in
theorem kv_X11_219 : jg_Vc RX11 219 mX2_dueBy 3 := ⟨(jg_m6 72 rfl rfl), wn_X2_dueBy, we_X2_dueBy, wi_X2, wc_X2_dueBy, by decide +kernel, by decide +kernel, by decide +kernel, by decide +kernel⟩
set_option maxRecDepth 20000 in
theorem kv_X11_229 : jg_Vc RX11 229 mX2_countAheadOf 1 := ⟨(jg_m6 73 rfl rfl), wn_X2_countAheadOf, we_X2_countAheadOf, wi_X2, wc_X2_countAheadOf, by decide +kernel, by decide +kernel, by decide +kernel, by decide +kernel⟩
set_option maxRecDepth 20000 in
theorem kv_L_70 : jg_Vc RL 70 mX11_quay 2 := ⟨(jg_m6 81 rfl rfl), wn_X11_quay, we_X11_quay, wi_X11, wc_X11_quay, by decide +kernel, by decide +kernel, by decide +kernel, by decide +kernel⟩
set_option maxRecDepth 20000 in
theorem kv_X11_246 : jg_Vc RX11 246 mX1_sunk 0 := ⟨(jg_m6 85 rfl rfl), wn_X1_sunk, we_X1_sunk, wi_X1, wc_X1_sunk, by decide +kernel, by decide +kernel, by decide +kernel, by decide +kernel⟩
set_option maxRecDepth 20000 in
theorem kv_L_73 : jg_Vc RL 73 mX11_window 3 := ⟨(jg_m6 90 rfl rfl), wn_X11_window, we_X11_window, wi_X11, wc_X11_window, by decide +kernel, by decide +kernel, by decide +kernel, by decide +kernel⟩
set_option maxRecDepth 20000 in
theorem kv_X11_260 : jg_Vc RX11 260 mX2_firstSafeHour 3 := ⟨(jg_m6 94 rfl rfl), wn_X2_firstSafeHour, we_X2_firstSafeHour, wi_X2, wc_X2_firstSafeHour, by decide +kernel, by decide +kernel, by decide +kernel, by decide +kernel⟩
set_option maxRecDepth 20000 in
theorem kv_L_77 : jg_Vc RL 77 mX11_act 1 := ⟨(jg_m6 101 rfl rfl), wn_X11_act, we_X11_act, wi_X11, wc_X11_act, by decide +kernel, by decide +kernel, by decide +kernel, by decide +kernel⟩
set_option maxRecDepth 20000 in
theorem kv_X11_264 : jg_Vc RX11 264 mX11_useTape 0 := ⟨(jg_m6 105 rfl rfl), wn_X11_useTape, we_X11_useTape, wi_X11, wc_X11_useTape, by decide +kernel, by decide +kernel, by decide +kernel, by decide +kernel⟩
set_option maxRecDepth 20000 in
theorem kv_X11_267 : jg_Vc RX11 267 mX7_read 2 := ⟨(jg_m6 109 rfl rfl), wn_X7_read, we_X7_read, wi_X7, wc_X7_read, by decide +kernel, by decide +kernel, by decide +kernel, by decide +kernel⟩
set_option maxRecDepth 20000 in
theorem km_X7_37 : Cond.methodLink RX7 37 yJ9_min_7cf53 ∈ jg_ws := (jg_m6 113 rfl rfl)
set_option maxRecDepth 20000 in
theorem kv_X7_43 : jg_Vc RX7 43 mX7_findThings 2 := ⟨(jg_m6 114 rfl rfl), wn_X7_findThings, we_X7_findThings, wi_X7, wc_X7_findThings, by decide +kernel, by decide +kernel, by decide +kernel, by decide +kernel⟩
set_option maxRecDepth 20000 in
theorem ks_X7_78 : jg_Sc RX7 78 mX7_goesOn 2 := ⟨(jg_m6 118 rfl rfl), wt_X7_goesOn, wi_X7, wc_X7_goesOn, by decide +kernel, by decide +kernel, by decide +kernel, by decide +kernel⟩
set_option maxRecDepth 20000 in
theorem ks_X7_90 : jg_Sc RX7 90 mX7_isLetter 1 := ⟨(jg_m6 121 rfl rfl), wt_X7_isLetter, wi_X7, wc_X7_isLetter, by decide +kernel, by decide +kernel, by decide +kernel, by decide +kernel⟩
set_option maxRecDepth 20000 in
theorem ks_X7_94 : jg_Sc RX7 94 mX7_isDigit 1 := ⟨(jg_m6 124 rfl rfl), wt_X7_isDigit, wi_X7, wc_X7_isDigit, by decide +kernel, by decide +kernel, by decide +kernel, by decide +kernel⟩
set_option maxRecDepth 20000 in
theorem ks_X7_82 : jg_Sc RX7 82 mX7_thingOf 3 := ⟨(jg_m6 127 rfl rfl), wt_X7_thingOf, wi_X7, wc_X7_thingOf, by decide +kernel, by decide +kernel, by decide +kernel, by decide +kernel⟩
set_option maxRecDepth 20000 in
theorem ks_X7_97 : jg_Sc RX7 97 mX7_wordOf 3 := ⟨(jg_m6 130 rfl rfl), wt_X7_wordOf, wi_X7, wc_X7_wordOf, by decide +kernel, by decide +kernel, by decide +kernel, by decide +kernel⟩
set_option maxRecDepth 20000 in
theorem ks_X7_105 : jg_Sc RX7 105 mX7_placeOf 4 := ⟨(jg_m6 134 rfl rfl), wt_X7_placeOf, wi_X7, wc_X7_placeOf, by decide +kernel, by decide +kernel, by decide +kernel, by decide +kernel⟩
set_option maxRecDepth 20000 in
theorem kv_X7_113 : jg_Vc RX7 113 mJ0_length_8abf5 0 := ⟨(jg_m6 137 rfl rfl), wn_J0_length_8abf5, we_J0_length_8abf5, wi_J0, wc_J0_length_8abf5, by decide +kernel, by decide +kernel, by decide +kernel, by decide +kernel⟩
set_option maxRecDepth 20000 in
theorem kv_J0_335 : jg_Vc RJ0 335 mJ0_coder_7d493 0 := ⟨(jg_m6 141 rfl rfl), wn_J0_coder_7d493, we_J0_coder_7d493, wi_J0, wc_J0_coder_7d493, by decide +kernel, by decide +kernel, by decide +kernel, by decide +kernel⟩
set_option maxRecDepth 20000 in
theorem kv_X7_118 : jg_Vc RX7 118 mJ0_charAt_5068e 1 := ⟨(jg_m6 147 rfl rfl), wn_J0_charAt_5068e, we_J0_charAt_5068e, wi_J0, wc_J0_charAt_5068e, by decide +kernel, by decide +kernel, by decide +kernel, by decide +kernel⟩
set_option maxRecDepth 20000 in
theorem kv_J0_492 : jg_Vc RJ0 492 mJ0_isLatin1_aae02 0 := ⟨(jg_m6 151 rfl rfl), wn_J0_isLatin1_aae02, we_J0_isLatin1_aae02, wi_J0, wc_J0_isLatin1_aae02, by decide +kernel, by decide +kernel, by decide +kernel, by decide +kernel⟩
set_option maxRecDepth 20000 in
theorem ks_J0_495 : jg_Sc RJ0 495 mJ1_charAt_3b067 2 := ⟨(jg_m6 155 rfl rfl), wt_J1_charAt_3b067, wi_J1, wc_J1_charAt_3b067, by decide +kernel, by decide +kernel, by decide +kernel, by decide +kernel⟩
set_option maxRecDepth 20000 in
theorem ks_J1_9 : jg_Sc RJ1 9 mJ0_checkIndex_df160 2 := ⟨(jg_m6 158 rfl rfl), wt_J0_checkIndex_df160, wi_J0, wc_J0_checkIndex_df160, by decide +kernel, by decide +kernel, by decide +kernel, by decide +kernel⟩
set_option maxRecDepth 20000 in
theorem ks_J0_1059 : jg_Sc RJ0 1059 mJ3_checkIndex_8e157 3 := ⟨(jg_m6 163 rfl rfl), wt_J3_checkIndex_8e157, wi_J3, wc_J3_checkIndex_8e157, by decide +kernel, by decide +kernel, by decide +kernel, by decide +kernel⟩
set_option maxRecDepth 20000 in
theorem ks_J0_498 : jg_Sc RJ0 498 mJ2_charAt_3b067 2 := ⟨(jg_m6 166 rfl rfl), wt_J2_charAt_3b067, wi_J2, wc_J2_charAt_3b067, by decide +kernel, by decide +kernel, by decide +kernel, by decide +kernel⟩
set_option maxRecDepth 20000 in
theorem ks_J2_67 : jg_Sc RJ2 67 mJ2_checkIndex_2214a 2 := ⟨(jg_m6 169 rfl rfl), wt_J2_checkIndex_2214a, wi_J2, wc_J2_checkIndex_2214a, by decide +kernel, by decide +kernel, by decide +kernel, by decide +kernel⟩
set_option maxRecDepth 20000 in
theorem ks_J2_48 : jg_Sc RJ2 48 mJ2_length_9d52b 1 := ⟨(jg_m6 172 rfl rfl), wt_J2_length_9d52b, wi_J2, wc_J2_length_9d52b, by decide +kernel, by decide +kernel, by decide +kernel, by decide +kernel⟩
set_option maxRecDepth 20000 in
theorem ks_J2_414 : jg_Sc RJ2 414 mJ0_checkIndex_df160 2 := ⟨(jg_m6 175 rfl rfl), wt_J0_checkIndex_df160, wi_J0, wc_J0_checkIndex_df160, by decide +kernel, by decide +kernel, by decide +kernel, by decide +kernel⟩
set_option maxRecDepth 20000 in
theorem ks_J2_71 : jg_Sc RJ2 71 mJ2_getChar_3b067 2 := ⟨(jg_m6 176 rfl rfl), wt_J2_getChar_3b067, wi_J2, wc_J2_getChar_3b067, by decide +kernel, by decide +kernel, by decide +kernel, by decide +kernel⟩
set_option maxRecDepth 20000 in
theorem ks_X7_100 : jg_Sc RX7 100 mX7_numberOf 3 := ⟨(jg_m6 187 rfl rfl), wt_X7_numberOf, wi_X7, wc_X7_numberOf, by decide +kernel, by decide +kernel, by decide +kernel, by decide +kernel⟩
set_option maxRecDepth 20000 in
theorem kv_X7_86 : jg_Vc RX7 86 mX7_addThing 2 := ⟨(jg_m6 190 rfl rfl), wn_X7_addThing, we_X7_addThing, wi_X7, wc_X7_addThing, by decide +kernel, by decide +kernel, by decide +kernel, by decide +kernel⟩
set_option maxRecDepth 20000 in
theorem kv_X7_56 : jg_Vc RX7 56 mX7_thing 0 := ⟨(jg_m6 194 rfl rfl), wn_X7_thing, we_X7_thing, wi_X7, wc_X7_thing, by decide +kernel, by decide +kernel, by decide +kernel, by decide +kernel⟩
set_option maxRecDepth 20000 in
theorem kv_X7_60 : jg_Vc RX7 60 mX7_readLine 0 := ⟨(jg_m6 198 rfl rfl), wn_X7_readLine, we_X7_readLine, wi_X7, wc_X7_readLine, by decide +kernel, by decide +kernel, by decide +kernel, by decide +kernel⟩
set_option maxRecDepth 20000 in
theorem ks_X7_122 : jg_Sc RX7 122 mX7_keyOf 1 := ⟨(jg_m6 202 rfl rfl), wt_X7_keyOf, wi_X7, wc_X7_keyOf, by decide +kernel, by decide +kernel, by decide +kernel, by decide +kernel⟩
set_option maxRecDepth 20000 in
theorem ks_X7_126 : jg_Sc RX7 126 mX7_mostOf 1 := ⟨(jg_m6 205 rfl rfl), wt_X7_mostOf, wi_X7, wc_X7_mostOf, by decide +kernel, by decide +kernel, by decide +kernel, by decide +kernel⟩
set_option maxRecDepth 20000 in
theorem kv_X7_129 : jg_Vc RX7 129 mX7_readAny 1 := ⟨(jg_m6 209 rfl rfl), wn_X7_readAny, we_X7_readAny, wi_X7, wc_X7_readAny, by decide +kernel, by decide +kernel, by decide +kernel, by decide +kernel⟩
set_option maxRecDepth 20000 in
theorem kv_X7_133 : jg_Vc RX7 133 mX7_readAll 1 := ⟨(jg_m6 213 rfl rfl), wn_X7_readAll, we_X7_readAll, wi_X7, wc_X7_readAll, by decide +kernel, by decide +kernel, by decide +kernel, by decide +kernel⟩
set_option maxRecDepth 20000 in
theorem kv_X7_139 : jg_Vc RX7 139 mX7_readAtom 1 := ⟨(jg_m6 217 rfl rfl), wn_X7_readAtom, we_X7_readAtom, wi_X7, wc_X7_readAtom, by decide +kernel, by decide +kernel, by decide +kernel, by decide +kernel⟩
set_option maxRecDepth 20000 in
theorem kv_X7_142 : jg_Vc RX7 142 mX7_readClosed 1 := ⟨(jg_m6 221 rfl rfl), wn_X7_readClosed, we_X7_readClosed, wi_X7, wc_X7_readClosed, by decide +kernel, by decide +kernel, by decide +kernel, by decide +kernel⟩
set_option maxRecDepth 20000 in
theorem kv_X7_145 : jg_Vc RX7 145 mX7_readDenied 1 := ⟨(jg_m6 225 rfl rfl), wn_X7_readDenied, we_X7_readDenied, wi_X7, wc_X7_readDenied, by decide +kernel, by decide +kernel, by decide +kernel, by decide +kernel⟩
set_option maxRecDepth 20000 in
theorem kv_X7_136 : jg_Vc RX7 136 mX7_addStep 2 := ⟨(jg_m6 229 rfl rfl), wn_X7_addStep, we_X7_addStep, wi_X7, wc_X7_addStep, by decide +kernel, by decide +kernel, by decide +kernel, by decide +kernel⟩
set_option maxRecDepth 20000 in
theorem kv_X7_148 : jg_Vc RX7 148 mX7_readLimit 1 := ⟨(jg_m6 233 rfl rfl), wn_X7_readLimit, we_X7_readLimit, wi_X7, wc_X7_readLimit, by decide +kernel, by decide +kernel, by decide +kernel, by decide +kernel⟩
set_option maxRecDepth 20000 in
theorem ks_X7_69 : jg_Sc RX7 69 mJ7_copyOf_59c91 2 := ⟨(jg_m6 238 rfl rfl), wt_J7_copyOf_59c91, wi_J7, wc_J7_copyOf_59c91, by decide +kernel, by decide +kernel, by decide +kernel, by decide +kernel⟩
set_option maxRecDepth 20000 in
theorem km_J7_304 : Cond.methodLink RJ7 304 yJ9_min_7cf53 ∈ jg_ws := (jg_m7 8 rfl rfl)
set_option maxRecDepth 20000 in
theorem ki_X7_75 : jg_Ic RX7 75 mX0_init 6 := ⟨(jg_m7 10 rfl rfl), wn_X0_init, rfl, rfl, wi_X0, wc_X0_init, by decide +kernel, by decide +kernel, by decide +kernel, by decide +kernel⟩
set_option maxRecDepth 20000 in
theorem kv_X11_276 : jg_Vc RX11 276 mX6_everPaid 0 := ⟨(jg_m7 12 rfl rfl), wn_X6_everPaid, we_X6_everPaid, wi_X6, wc_X6_everPaid, by decide +kernel, by decide +kernel, by decide +kernel, by decide +kernel⟩
set_option maxRecDepth 20000 in
theorem kv_X11_289 : jg_Vc RX11 289 mX3_pass 2 := ⟨(jg_m7 16 rfl rfl), wn_X3_pass, we_X3_pass, wi_X3, wc_X3_pass, by decide +kernel, by decide +kernel, by decide +kernel, by decide +kernel⟩
set_option maxRecDepth 20000 in
theorem kv_L_80 : jg_Vc RL 80 mX11_propose 1 := ⟨(jg_m7 23 rfl rfl), wn_X11_propose, we_X11_propose, wi_X11, wc_X11_propose, by decide +kernel, by decide +kernel, by decide +kernel, by decide +kernel⟩
set_option maxRecDepth 20000 in
theorem kv_X11_302 : jg_Vc RX11 302 mX3_beginVote 2 := ⟨(jg_m7 27 rfl rfl), wn_X3_beginVote, we_X3_beginVote, wi_X3, wc_X3_beginVote, by decide +kernel, by decide +kernel, by decide +kernel, by decide +kernel⟩
set_option maxRecDepth 20000 in
theorem kv_L_83 : jg_Vc RL 83 mX11_vote 2 := ⟨(jg_m7 34 rfl rfl), wn_X11_vote, we_X11_vote, wi_X11, wc_X11_vote, by decide +kernel, by decide +kernel, by decide +kernel, by decide +kernel⟩
set_option maxRecDepth 20000 in
theorem kv_X11_308 : jg_Vc RX11 308 mX2_votesOf 1 := ⟨(jg_m7 38 rfl rfl), wn_X2_votesOf, we_X2_votesOf, wi_X2, wc_X2_votesOf, by decide +kernel, by decide +kernel, by decide +kernel, by decide +kernel⟩
set_option maxRecDepth 20000 in
theorem ks_X2_323 : jg_Sc RX2 323 mJ7_fill_53178 2 := ⟨(jg_m7 42 rfl rfl), wt_J7_fill_53178, wi_J7, wc_J7_fill_53178, by decide +kernel, by decide +kernel, by decide +kernel, by decide +kernel⟩
set_option maxRecDepth 20000 in
theorem kv_X11_311 : jg_Vc RX11 311 mX3_say 3 := ⟨(jg_m7 43 rfl rfl), wn_X3_say, we_X3_say, wi_X3, wc_X3_say, by decide +kernel, by decide +kernel, by decide +kernel, by decide +kernel⟩
set_option maxRecDepth 20000 in
theorem kv_L_87 : jg_Vc RL 87 mX11_close 0 := ⟨(jg_m7 50 rfl rfl), wn_X11_close, we_X11_close, wi_X11, wc_X11_close, by decide +kernel, by decide +kernel, by decide +kernel, by decide +kernel⟩
set_option maxRecDepth 20000 in
theorem kv_X11_315 : jg_Vc RX11 315 mX3_endVote 1 := ⟨(jg_m7 54 rfl rfl), wn_X3_endVote, we_X3_endVote, wi_X3, wc_X3_endVote, by decide +kernel, by decide +kernel, by decide +kernel, by decide +kernel⟩
set_option maxRecDepth 20000 in
theorem kv_X3_56 : jg_Vc RX3 56 mX3_onDay 1 := ⟨(jg_m7 58 rfl rfl), wn_X3_onDay, we_X3_onDay, wi_X3, wc_X3_onDay, by decide +kernel, by decide +kernel, by decide +kernel, by decide +kernel⟩
set_option maxRecDepth 20000 in
theorem kv_X3_60 : jg_Vc RX3 60 mX0_lastNumber 2 := ⟨(jg_m7 59 rfl rfl), wn_X0_lastNumber, we_X0_lastNumber, wi_X0, wc_X0_lastNumber, by decide +kernel, by decide +kernel, by decide +kernel, by decide +kernel⟩
set_option maxRecDepth 20000 in
theorem km_X3_66 : Cond.methodLink RX3 66 yJ9_max_7cf53 ∈ jg_ws := (jg_m7 61 rfl rfl)
set_option maxRecDepth 20000 in
theorem kv_X3_71 : jg_Vc RX3 71 mX3_pass 2 := ⟨(jg_m7 62 rfl rfl), wn_X3_pass, we_X3_pass, wi_X3, wc_X3_pass, by decide +kernel, by decide +kernel, by decide +kernel, by decide +kernel⟩
set_option maxRecDepth 20000 in
theorem kv_L_91 : jg_Vc RL 91 mX11_judge 2 := ⟨(jg_m7 66 rfl rfl), wn_X11_judge, we_X11_judge, wi_X11, wc_X11_judge, by decide +kernel, by decide +kernel, by decide +kernel, by decide +kernel⟩
set_option maxRecDepth 20000 in
theorem kv_X11_319 : jg_Vc RX11 319 mX2_askOfShip 2 := ⟨(jg_m7 70 rfl rfl), wn_X2_askOfShip, we_X2_askOfShip, wi_X2, wc_X2_askOfShip, by decide +kernel, by decide +kernel, by decide +kernel, by decide +kernel⟩
set_option maxRecDepth 20000 in
theorem kv_X11_326 : jg_Vc RX11 326 mX0_firstThatHolds 2 := ⟨(jg_m7 71 rfl rfl), wn_X0_firstThatHolds, we_X0_firstThatHolds, wi_X0, wc_X0_firstThatHolds, by decide +kernel, by decide +kernel, by decide +kernel, by decide +kernel⟩
set_option maxRecDepth 20000 in
theorem kv_X11_330 : jg_Vc RX11 330 mX0_greatest 2 := ⟨(jg_m7 75 rfl rfl), wn_X0_greatest, we_X0_greatest, wi_X0, wc_X0_greatest, by decide +kernel, by decide +kernel, by decide +kernel, by decide +kernel⟩
set_option maxRecDepth 20000 in
theorem kv_L_94 : jg_Vc RL 94 mX11_back 1 := ⟨(jg_m7 83 rfl rfl), wn_X11_back, we_X11_back, wi_X11, wc_X11_back, by decide +kernel, by decide +kernel, by decide +kernel, by decide +kernel⟩
set_option maxRecDepth 20000 in
theorem kv_X11_335 : jg_Vc RX11 335 mX2_payBack 1 := ⟨(jg_m7 87 rfl rfl), wn_X2_payBack, we_X2_payBack, wi_X2, wc_X2_payBack, by decide +kernel, by decide +kernel, by decide +kernel, by decide +kernel⟩
set_option maxRecDepth 20000 in
theorem kv_X2_312 : jg_Vc RX2 312 mX0_greatest 2 := ⟨(jg_m7 91 rfl rfl), wn_X0_greatest, we_X0_greatest, wi_X0, wc_X0_greatest, by decide +kernel, by decide +kernel, by decide +kernel, by decide +kernel⟩
set_option maxRecDepth 20000 in
theorem kv_X2_317 : jg_Vc RX2 317 mX6_giveBack 1 := ⟨(jg_m7 93 rfl rfl), wn_X6_giveBack, we_X6_giveBack, wi_X6, wc_X6_giveBack, by decide +kernel, by decide +kernel, by decide +kernel, by decide +kernel⟩
set_option maxRecDepth 20000 in
theorem kv_L_97 : jg_Vc RL 97 mX11_pays 2 := ⟨(jg_m7 100 rfl rfl), wn_X11_pays, we_X11_pays, wi_X11, wc_X11_pays, by decide +kernel, by decide +kernel, by decide +kernel, by decide +kernel⟩
set_option maxRecDepth 20000 in
theorem kv_X11_344 : jg_Vc RX11 344 mX5_countShipsOf 1 := ⟨(jg_m7 104 rfl rfl), wn_X5_countShipsOf, we_X5_countShipsOf, wi_X5, wc_X5_countShipsOf, by decide +kernel, by decide +kernel, by decide +kernel, by decide +kernel⟩
set_option maxRecDepth 20000 in
theorem kv_L_100 : jg_Vc RL 100 mX11_cash 1 := ⟨(jg_m7 112 rfl rfl), wn_X11_cash, we_X11_cash, wi_X11, wc_X11_cash, by decide +kernel, by decide +kernel, by decide +kernel, by decide +kernel⟩
set_option maxRecDepth 20000 in
theorem ks_X11_355 : jg_Sc RX11 355 mX11_capped 1 := ⟨(jg_m7 116 rfl rfl), wt_X11_capped, wi_X11, wc_X11_capped, by decide +kernel, by decide +kernel, by decide +kernel, by decide +kernel⟩
set_option maxRecDepth 20000 in
theorem kv_L_103 : jg_Vc RL 103 mX11_bond 4 := ⟨(jg_m7 120 rfl rfl), wn_X11_bond, we_X11_bond, wi_X11, wc_X11_bond, by decide +kernel, by decide +kernel, by decide +kernel, by decide +kernel⟩
set_option maxRecDepth 20000 in
theorem kv_X11_365 : jg_Vc RX11 365 mX6_borrowed 1 := ⟨(jg_m7 124 rfl rfl), wn_X6_borrowed, we_X6_borrowed, wi_X6, wc_X6_borrowed, by decide +kernel, by decide +kernel, by decide +kernel, by decide +kernel⟩
set_option maxRecDepth 20000 in
theorem kv_X11_368 : jg_Vc RX11 368 mX0_lastNumber 2 := ⟨(jg_m7 128 rfl rfl), wn_X0_lastNumber, we_X0_lastNumber, wi_X0, wc_X0_lastNumber, by decide +kernel, by decide +kernel, by decide +kernel, by decide +kernel⟩
set_option maxRecDepth 20000 in
theorem kv_X11_371 : jg_Vc RX11 371 mX6_sell 4 := ⟨(jg_m7 129 rfl rfl), wn_X6_sell, we_X6_sell, wi_X6, wc_X6_sell, by decide +kernel, by decide +kernel, by decide +kernel, by decide +kernel⟩
set_option maxRecDepth 20000 in
theorem kv_L_106 : jg_Vc RL 106 mX11_owes 2 := ⟨(jg_m7 136 rfl rfl), wn_X11_owes, we_X11_owes, wi_X11, wc_X11_owes, by decide +kernel, by decide +kernel, by decide +kernel, by decide +kernel⟩
set_option maxRecDepth 20000 in
theorem kv_L_109 : jg_Vc RL 109 mX11_work 4 := ⟨(jg_m7 144 rfl rfl), wn_X11_work, we_X11_work, wi_X11, wc_X11_work, by decide +kernel, by decide +kernel, by decide +kernel, by decide +kernel⟩
set_option maxRecDepth 20000 in
theorem kv_X11_396 : jg_Vc RX11 396 mX4_addWork 3 := ⟨(jg_m7 149 rfl rfl), wn_X4_addWork, we_X4_addWork, wi_X4, wc_X4_addWork, by decide +kernel, by decide +kernel, by decide +kernel, by decide +kernel⟩
set_option maxRecDepth 20000 in
theorem kv_L_112 : jg_Vc RL 112 mX11_worth 2 := ⟨(jg_m7 156 rfl rfl), wn_X11_worth, we_X11_worth, wi_X11, wc_X11_worth, by decide +kernel, by decide +kernel, by decide +kernel, by decide +kernel⟩
set_option maxRecDepth 20000 in
theorem kv_X11_402 : jg_Vc RX11 402 mX4_worthOf 2 := ⟨(jg_m7 160 rfl rfl), wn_X4_worthOf, we_X4_worthOf, wi_X4, wc_X4_worthOf, by decide +kernel, by decide +kernel, by decide +kernel, by decide +kernel⟩
set_option maxRecDepth 20000 in
theorem kv_L_115 : jg_Vc RL 115 mX11_best 1 := ⟨(jg_m7 167 rfl rfl), wn_X11_best, we_X11_best, wi_X11, wc_X11_best, by decide +kernel, by decide +kernel, by decide +kernel, by decide +kernel⟩
set_option maxRecDepth 20000 in
theorem kv_X11_405 : jg_Vc RX11 405 mX4_bestSet 1 := ⟨(jg_m7 171 rfl rfl), wn_X4_bestSet, we_X4_bestSet, wi_X4, wc_X4_bestSet, by decide +kernel, by decide +kernel, by decide +kernel, by decide +kernel⟩
set_option maxRecDepth 20000 in
theorem kv_X4_52 : jg_Vc RX4 52 mX4_worthOf 2 := ⟨(jg_m7 175 rfl rfl), wn_X4_worthOf, we_X4_worthOf, wi_X4, wc_X4_worthOf, by decide +kernel, by decide +kernel, by decide +kernel, by decide +kernel⟩
set_option maxRecDepth 20000 in
theorem ks_X4_56 : jg_Sc RX4 56 mJ6_bitCount_0f7a4 1 := ⟨(jg_m7 176 rfl rfl), wt_J6_bitCount_0f7a4, wi_J6, wc_J6_bitCount_0f7a4, by decide +kernel, by decide +kernel, by decide +kernel, by decide +kernel⟩
set_option maxRecDepth 20000 in
theorem kv_L_118 : jg_Vc RL 118 mX11_another 2 := ⟨(jg_m7 185 rfl rfl), wn_X11_another, we_X11_another, wi_X11, wc_X11_another, by decide +kernel, by decide +kernel, by decide +kernel, by decide +kernel⟩
set_option maxRecDepth 20000 in
theorem kv_X11_408 : jg_Vc RX11 408 mX2_underAnother 3 := ⟨(jg_m7 189 rfl rfl), wn_X2_underAnother, we_X2_underAnother, wi_X2, wc_X2_underAnother, by decide +kernel, by decide +kernel, by decide +kernel, by decide +kernel⟩
set_option maxRecDepth 20000 in
theorem kv_L_141 : jg_Vc RL 141 mX12_thrown 0 := ⟨(jg_m7 193 rfl rfl), wn_X12_thrown, we_X12_thrown, wi_X12, wc_X12_thrown, by decide +kernel, by decide +kernel, by decide +kernel, by decide +kernel⟩
set_option maxRecDepth 20000 in
theorem ki_L_124 : jg_Ic RL 124 mX12_init 0 := ⟨(jg_m7 199 rfl rfl), wn_X12_init, rfl, rfl, wi_X12, wc_X12_init, by decide +kernel, by decide +kernel, by decide +kernel, by decide +kernel⟩
set_option maxRecDepth 20000 in
theorem ko_X12_7 : Cond.methodLink RX12 7 objectInit ∈ jg_ws := (jg_m7 202 rfl rfl)
set_option maxRecDepth 20000 in
theorem kv_L_251 : jg_Vc RL 251 mX12_keep 0 := ⟨(jg_m8 33 rfl rfl), wn_X12_keep, we_X12_keep, wi_X12, wc_X12_keep, by decide +kernel, by decide +kernel, by decide +kernel, by decide +kernel⟩
set_option maxRecDepth 20000 in
theorem kv_L_255 : jg_Vc RL 255 mX12_again 0 := ⟨(jg_m8 37 rfl rfl), wn_X12_again, we_X12_again, wi_X12, wc_X12_again, by decide +kernel, by decide +kernel, by decide +kernel, by decide +kernel⟩
set_option maxRecDepth 20000 in
theorem kv_L_140 : jg_Vc RL 140 mX12_river 4 := ⟨(jg_m8 41 rfl rfl), wn_X12_river, we_X12_river, wi_X12, wc_X12_river, by decide +kernel, by decide +kernel, by decide +kernel, by decide +kernel⟩
set_option maxRecDepth 20000 in
theorem ks_X12_65 : jg_Sc RX12 65 mX12_noCell 1 := ⟨(jg_m8 45 rfl rfl), wt_X12_noCell, wi_X12, wc_X12_noCell, by decide +kernel, by decide +kernel, by decide +kernel, by decide +kernel⟩
set_option maxRecDepth 20000 in
theorem ks_X12_49 : jg_Sc RX12 49 mX12_in 3 := ⟨(jg_m8 48 rfl rfl), wt_X12_in, wi_X12, wc_X12_in, by decide +kernel, by decide +kernel, by decide +kernel, by decide +kernel⟩
set_option maxRecDepth 20000 in
theorem kv_X12_69 : jg_Vc RX12 69 mX12_throwsIf 2 := ⟨(jg_m8 51 rfl rfl), wn_X12_throwsIf, we_X12_throwsIf, wi_X12, wc_X12_throwsIf, by decide +kernel, by decide +kernel, by decide +kernel, by decide +kernel⟩
set_option maxRecDepth 20000 in
theorem kv_X12_73 : jg_Vc RX12 73 mX12_hour 0 := ⟨(jg_m8 55 rfl rfl), wn_X12_hour, we_X12_hour, wi_X12, wc_X12_hour, by decide +kernel, by decide +kernel, by decide +kernel, by decide +kernel⟩
set_option maxRecDepth 20000 in
theorem kv_L_147 : jg_Vc RL 147 mX12_tide 2 := ⟨(jg_m8 59 rfl rfl), wn_X12_tide, we_X12_tide, wi_X12, wc_X12_tide, by decide +kernel, by decide +kernel, by decide +kernel, by decide +kernel⟩
set_option maxRecDepth 20000 in
theorem kv_L_151 : jg_Vc RL 151 mX12_run 2 := ⟨(jg_m8 63 rfl rfl), wn_X12_run, we_X12_run, wi_X12, wc_X12_run, by decide +kernel, by decide +kernel, by decide +kernel, by decide +kernel⟩
set_option maxRecDepth 20000 in
theorem kv_X12_77 : jg_Vc RX12 77 mX12_today 0 := ⟨(jg_m8 67 rfl rfl), wn_X12_today, we_X12_today, wi_X12, wc_X12_today, by decide +kernel, by decide +kernel, by decide +kernel, by decide +kernel⟩
set_option maxRecDepth 20000 in
theorem kv_L_155 : jg_Vc RL 155 mX12_dredger 1 := ⟨(jg_m8 71 rfl rfl), wn_X12_dredger, we_X12_dredger, wi_X12, wc_X12_dredger, by decide +kernel, by decide +kernel, by decide +kernel, by decide +kernel⟩
set_option maxRecDepth 20000 in
theorem kv_L_159 : jg_Vc RL 159 mX12_station 3 := ⟨(jg_m8 75 rfl rfl), wn_X12_station, we_X12_station, wi_X12, wc_X12_station, by decide +kernel, by decide +kernel, by decide +kernel, by decide +kernel⟩
set_option maxRecDepth 20000 in
theorem kv_L_165 : jg_Vc RL 165 mX12_sound 3 := ⟨(jg_m8 79 rfl rfl), wn_X12_sound, we_X12_sound, wi_X12, wc_X12_sound, by decide +kernel, by decide +kernel, by decide +kernel, by decide +kernel⟩
set_option maxRecDepth 20000 in
theorem kv_L_168 : jg_Vc RL 168 mX12_known 2 := ⟨(jg_m8 83 rfl rfl), wn_X12_known, we_X12_known, wi_X12, wc_X12_known, by decide +kernel, by decide +kernel, by decide +kernel, by decide +kernel⟩
set_option maxRecDepth 20000 in
theorem kv_X12_80 : jg_Vc RX12 80 mX12_knownOf 2 := ⟨(jg_m8 87 rfl rfl), wn_X12_knownOf, we_X12_knownOf, wi_X12, wc_X12_knownOf, by decide +kernel, by decide +kernel, by decide +kernel, by decide +kernel⟩
set_option maxRecDepth 20000 in
theorem kv_L_162 : jg_Vc RL 162 mX12_cell 2 := ⟨(jg_m8 91 rfl rfl), wn_X12_cell, we_X12_cell, wi_X12, wc_X12_cell, by decide +kernel, by decide +kernel, by decide +kernel, by decide +kernel⟩
set_option maxRecDepth 20000 in
theorem kv_L_172 : jg_Vc RL 172 mX12_berth 4 := ⟨(jg_m8 95 rfl rfl), wn_X12_berth, we_X12_berth, wi_X12, wc_X12_berth, by decide +kernel, by decide +kernel, by decide +kernel, by decide +kernel⟩
set_option maxRecDepth 20000 in
theorem ks_X12_100 : jg_Sc RX12 100 mX12_berthAt 2 := ⟨(jg_m8 100 rfl rfl), wt_X12_berthAt, wi_X12, wc_X12_berthAt, by decide +kernel, by decide +kernel, by decide +kernel, by decide +kernel⟩
set_option maxRecDepth 20000 in
theorem kv_L_175 : jg_Vc RL 175 mX12_hands 2 := ⟨(jg_m8 103 rfl rfl), wn_X12_hands, we_X12_hands, wi_X12, wc_X12_hands, by decide +kernel, by decide +kernel, by decide +kernel, by decide +kernel⟩
set_option maxRecDepth 20000 in
theorem kv_L_179 : jg_Vc RL 179 mX12_payer 0 := ⟨(jg_m8 107 rfl rfl), wn_X12_payer, we_X12_payer, wi_X12, wc_X12_payer, by decide +kernel, by decide +kernel, by decide +kernel, by decide +kernel⟩
set_option maxRecDepth 20000 in
theorem kv_L_183 : jg_Vc RL 183 mX12_ship 8 := ⟨(jg_m8 111 rfl rfl), wn_X12_ship, we_X12_ship, wi_X12, wc_X12_ship, by decide +kernel, by decide +kernel, by decide +kernel, by decide +kernel⟩
set_option maxRecDepth 20000 in
theorem kv_X12_107 : jg_Vc RX12 107 mX12_noPayer 1 := ⟨(jg_m8 115 rfl rfl), wn_X12_noPayer, we_X12_noPayer, wi_X12, wc_X12_noPayer, by decide +kernel, by decide +kernel, by decide +kernel, by decide +kernel⟩
set_option maxRecDepth 20000 in
theorem kv_X12_111 : jg_Vc RX12 111 mX12_sets 3 := ⟨(jg_m8 120 rfl rfl), wn_X12_sets, we_X12_sets, wi_X12, wc_X12_sets, by decide +kernel, by decide +kernel, by decide +kernel, by decide +kernel⟩
set_option maxRecDepth 20000 in
theorem ks_X12_104 : jg_Sc RX12 104 mX12_shipAt 2 := ⟨(jg_m8 124 rfl rfl), wt_X12_shipAt, wi_X12, wc_X12_shipAt, by decide +kernel, by decide +kernel, by decide +kernel, by decide +kernel⟩
set_option maxRecDepth 20000 in
theorem kv_X12_115 : jg_Vc RX12 115 mX12_actOf 1 := ⟨(jg_m8 127 rfl rfl), wn_X12_actOf, we_X12_actOf, wi_X12, wc_X12_actOf, by decide +kernel, by decide +kernel, by decide +kernel, by decide +kernel⟩
set_option maxRecDepth 20000 in
theorem ks_X12_242 : jg_Sc RX12 242 mX12_actAt 1 := ⟨(jg_m8 131 rfl rfl), wt_X12_actAt, wi_X12, wc_X12_actAt, by decide +kernel, by decide +kernel, by decide +kernel, by decide +kernel⟩
set_option maxRecDepth 20000 in
theorem kv_L_196 : jg_Vc RL 196 mX12_window 3 := ⟨(jg_m8 134 rfl rfl), wn_X12_window, we_X12_window, wi_X12, wc_X12_window, by decide +kernel, by decide +kernel, by decide +kernel, by decide +kernel⟩
set_option maxRecDepth 20000 in
theorem kv_X12_128 : jg_Vc RX12 128 mX12_noShip 1 := ⟨(jg_m8 138 rfl rfl), wn_X12_noShip, we_X12_noShip, wi_X12, wc_X12_noShip, by decide +kernel, by decide +kernel, by decide +kernel, by decide +kernel⟩
set_option maxRecDepth 20000 in
theorem kv_X12_131 : jg_Vc RX12 131 mX12_noBerth 1 := ⟨(jg_m8 142 rfl rfl), wn_X12_noBerth, we_X12_noBerth, wi_X12, wc_X12_noBerth, by decide +kernel, by decide +kernel, by decide +kernel, by decide +kernel⟩
set_option maxRecDepth 20000 in
theorem kv_X12_134 : jg_Vc RX12 134 mX12_looks 0 := ⟨(jg_m8 146 rfl rfl), wn_X12_looks, we_X12_looks, wi_X12, wc_X12_looks, by decide +kernel, by decide +kernel, by decide +kernel, by decide +kernel⟩
set_option maxRecDepth 20000 in
theorem kv_X12_137 : jg_Vc RX12 137 mX12_of 2 := ⟨(jg_m8 150 rfl rfl), wn_X12_of, we_X12_of, wi_X12, wc_X12_of, by decide +kernel, by decide +kernel, by decide +kernel, by decide +kernel⟩
set_option maxRecDepth 20000 in
theorem kv_X12_140 : jg_Vc RX12 140 mX12_berthOf 2 := ⟨(jg_m8 154 rfl rfl), wn_X12_berthOf, we_X12_berthOf, wi_X12, wc_X12_berthOf, by decide +kernel, by decide +kernel, by decide +kernel, by decide +kernel⟩
set_option maxRecDepth 20000 in
theorem kv_X12_143 : jg_Vc RX12 143 mX12_isSafe 4 := ⟨(jg_m8 158 rfl rfl), wn_X12_isSafe, we_X12_isSafe, wi_X12, wc_X12_isSafe, by decide +kernel, by decide +kernel, by decide +kernel, by decide +kernel⟩
set_option maxRecDepth 20000 in
theorem kv_X12_118 : jg_Vc RX12 118 mX12_clearance 0 := ⟨(jg_m8 162 rfl rfl), wn_X12_clearance, we_X12_clearance, wi_X12, wc_X12_clearance, by decide +kernel, by decide +kernel, by decide +kernel, by decide +kernel⟩
set_option maxRecDepth 20000 in
theorem kv_X12_147 : jg_Vc RX12 147 mX12_lastOf 2 := ⟨(jg_m8 166 rfl rfl), wn_X12_lastOf, we_X12_lastOf, wi_X12, wc_X12_lastOf, by decide +kernel, by decide +kernel, by decide +kernel, by decide +kernel⟩
set_option maxRecDepth 20000 in
theorem kv_X12_356 : jg_Vc RX12 356 mX12_linesOf 1 := ⟨(jg_m8 170 rfl rfl), wn_X12_linesOf, we_X12_linesOf, wi_X12, wc_X12_linesOf, by decide +kernel, by decide +kernel, by decide +kernel, by decide +kernel⟩
set_option maxRecDepth 20000 in
theorem ks_X12_121 : jg_Sc RX12 121 mX12_hourAt 4 := ⟨(jg_m8 174 rfl rfl), wt_X12_hourAt, wi_X12, wc_X12_hourAt, by decide +kernel, by decide +kernel, by decide +kernel, by decide +kernel⟩
set_option maxRecDepth 20000 in
theorem kv_X12_125 : jg_Vc RX12 125 mX12_tideOf 1 := ⟨(jg_m8 177 rfl rfl), wn_X12_tideOf, we_X12_tideOf, wi_X12, wc_X12_tideOf, by decide +kernel, by decide +kernel, by decide +kernel, by decide +kernel⟩
set_option maxRecDepth 20000 in
theorem kv_L_186 : jg_Vc RL 186 mX12_hours 1 := ⟨(jg_m8 181 rfl rfl), wn_X12_hours, we_X12_hours, wi_X12, wc_X12_hours, by decide +kernel, by decide +kernel, by decide +kernel, by decide +kernel⟩
set_option maxRecDepth 20000 in
theorem kv_X12_205 : jg_Vc RX12 205 mX12_anHour 0 := ⟨(jg_m8 185 rfl rfl), wn_X12_anHour, we_X12_anHour, wi_X12, wc_X12_anHour, by decide +kernel, by decide +kernel, by decide +kernel, by decide +kernel⟩
set_option maxRecDepth 20000 in
theorem kv_X12_184 : jg_Vc RX12 184 mX12_leaves 1 := ⟨(jg_m8 189 rfl rfl), wn_X12_leaves, we_X12_leaves, wi_X12, wc_X12_leaves, by decide +kernel, by decide +kernel, by decide +kernel, by decide +kernel⟩
set_option maxRecDepth 20000 in
theorem kv_X12_156 : jg_Vc RX12 156 mX12_freePilots 0 := ⟨(jg_m8 193 rfl rfl), wn_X12_freePilots, we_X12_freePilots, wi_X12, wc_X12_freePilots, by decide +kernel, by decide +kernel, by decide +kernel, by decide +kernel⟩
set_option maxRecDepth 20000 in
theorem km_X12_88 : Cond.methodLink RX12 88 yJ9_max_7cf53 ∈ jg_ws := (jg_m8 197 rfl rfl)
set_option maxRecDepth 20000 in
theorem kv_X12_159 : jg_Vc RX12 159 mX12_touches 4 := ⟨(jg_m8 198 rfl rfl), wn_X12_touches, we_X12_touches, wi_X12, wc_X12_touches, by decide +kernel, by decide +kernel, by decide +kernel, by decide +kernel⟩
set_option maxRecDepth 20000 in
theorem kv_X12_163 : jg_Vc RX12 163 mX12_pilots 1 := ⟨(jg_m8 202 rfl rfl), wn_X12_pilots, we_X12_pilots, wi_X12, wc_X12_pilots, by decide +kernel, by decide +kernel, by decide +kernel, by decide +kernel⟩
set_option maxRecDepth 20000 in
theorem kv_X12_166 : jg_Vc RX12 166 mX12_dueOf 3 := ⟨(jg_m8 206 rfl rfl), wn_X12_dueOf, we_X12_dueOf, wi_X12, wc_X12_dueOf, by decide +kernel, by decide +kernel, by decide +kernel, by decide +kernel⟩
set_option maxRecDepth 20000 in
theorem kv_X12_367 : jg_Vc RX12 367 mX12_looksAtShip 2 := ⟨(jg_m8 210 rfl rfl), wn_X12_looksAtShip, we_X12_looksAtShip, wi_X12, wc_X12_looksAtShip, by decide +kernel, by decide +kernel, by decide +kernel, by decide +kernel⟩
set_option maxRecDepth 20000 in
theorem kv_X12_370 : jg_Vc RX12 370 mX12_sumOf 2 := ⟨(jg_m8 214 rfl rfl), wn_X12_sumOf, we_X12_sumOf, wi_X12, wc_X12_sumOf, by decide +kernel, by decide +kernel, by decide +kernel, by decide +kernel⟩
set_option maxRecDepth 20000 in
theorem kv_X12_364 : jg_Vc RX12 364 mX12_holds 2 := ⟨(jg_m8 218 rfl rfl), wn_X12_holds, we_X12_holds, wi_X12, wc_X12_holds, by decide +kernel, by decide +kernel, by decide +kernel, by decide +kernel⟩
set_option maxRecDepth 20000 in
theorem ks_X12_173 : jg_Sc RX12 173 mX12_added 2 := ⟨(jg_m8 222 rfl rfl), wt_X12_added, wi_X12, wc_X12_added, by decide +kernel, by decide +kernel, by decide +kernel, by decide +kernel⟩
set_option maxRecDepth 20000 in
theorem km_X12_55 : Cond.methodLink RX12 55 yJ9_min_f86c9 ∈ jg_ws := (jg_m8 226 rfl rfl)
set_option maxRecDepth 20000 in
theorem ks_X12_170 : jg_Sc RX12 170 mX12_payerAt 2 := ⟨(jg_m8 227 rfl rfl), wt_X12_payerAt, wi_X12, wc_X12_payerAt, by decide +kernel, by decide +kernel, by decide +kernel, by decide +kernel⟩
set_option maxRecDepth 20000 in
theorem kv_X12_187 : jg_Vc RX12 187 mX12_lines 0 := ⟨(jg_m8 230 rfl rfl), wn_X12_lines, we_X12_lines, wi_X12, wc_X12_lines, by decide +kernel, by decide +kernel, by decide +kernel, by decide +kernel⟩
set_option maxRecDepth 20000 in
theorem kv_X12_153 : jg_Vc RX12 153 mX12_keyOf 2 := ⟨(jg_m8 234 rfl rfl), wn_X12_keyOf, we_X12_keyOf, wi_X12, wc_X12_keyOf, by decide +kernel, by decide +kernel, by decide +kernel, by decide +kernel⟩
set_option maxRecDepth 20000 in
theorem kv_X12_190 : jg_Vc RX12 190 mX12_comes 1 := ⟨(jg_m8 238 rfl rfl), wn_X12_comes, we_X12_comes, wi_X12, wc_X12_comes, by decide +kernel, by decide +kernel, by decide +kernel, by decide +kernel⟩
set_option maxRecDepth 20000 in
theorem kv_X12_180 : jg_Vc RX12 180 mX12_mayHave 2 := ⟨(jg_m9 2 rfl rfl), wn_X12_mayHave, we_X12_mayHave, wi_X12, wc_X12_mayHave, by decide +kernel, by decide +kernel, by decide +kernel, by decide +kernel⟩
set_option maxRecDepth 20000 in
theorem kv_X12_177 : jg_Vc RX12 177 mX12_isClosed 1 := ⟨(jg_m9 6 rfl rfl), wn_X12_isClosed, we_X12_isClosed, wi_X12, wc_X12_isClosed, by decide +kernel, by decide +kernel, by decide +kernel, by decide +kernel⟩
set_option maxRecDepth 20000 in
theorem kv_X12_193 : jg_Vc RX12 193 mX12_unloads 1 := ⟨(jg_m9 10 rfl rfl), wn_X12_unloads, we_X12_unloads, wi_X12, wc_X12_unloads, by decide +kernel, by decide +kernel, by decide +kernel, by decide +kernel⟩
set_option maxRecDepth 20000 in
theorem km_X12_91 : Cond.methodLink RX12 91 yJ9_min_7cf53 ∈ jg_ws := (jg_m9 14 rfl rfl)
set_option maxRecDepth 20000 in
theorem kv_X12_196 : jg_Vc RX12 196 mX12_hauls 0 := ⟨(jg_m9 15 rfl rfl), wn_X12_hauls, we_X12_hauls, wi_X12, wc_X12_hauls, by decide +kernel, by decide +kernel, by decide +kernel, by decide +kernel⟩
set_option maxRecDepth 20000 in
theorem kv_X12_199 : jg_Vc RX12 199 mX12_dayEnds 0 := ⟨(jg_m9 19 rfl rfl), wn_X12_dayEnds, we_X12_dayEnds, wi_X12, wc_X12_dayEnds, by decide +kernel, by decide +kernel, by decide +kernel, by decide +kernel⟩
set_option maxRecDepth 20000 in
theorem kv_X12_93 : jg_Vc RX12 93 mX12_settles 0 := ⟨(jg_m9 23 rfl rfl), wn_X12_settles, we_X12_settles, wi_X12, wc_X12_settles, by decide +kernel, by decide +kernel, by decide +kernel, by decide +kernel⟩
set_option maxRecDepth 20000 in
theorem kv_X12_84 : jg_Vc RX12 84 mX12_runOf 1 := ⟨(jg_m9 27 rfl rfl), wn_X12_runOf, we_X12_runOf, wi_X12, wc_X12_runOf, by decide +kernel, by decide +kernel, by decide +kernel, by decide +kernel⟩
set_option maxRecDepth 20000 in
theorem kv_X12_96 : jg_Vc RX12 96 mX12_digs 1 := ⟨(jg_m9 31 rfl rfl), wn_X12_digs, we_X12_digs, wi_X12, wc_X12_digs, by decide +kernel, by decide +kernel, by decide +kernel, by decide +kernel⟩
set_option maxRecDepth 20000 in
theorem kv_X12_202 : jg_Vc RX12 202 mX12_yearEnds 0 := ⟨(jg_m9 35 rfl rfl), wn_X12_yearEnds, we_X12_yearEnds, wi_X12, wc_X12_yearEnds, by decide +kernel, by decide +kernel, by decide +kernel, by decide +kernel⟩
set_option maxRecDepth 20000 in
theorem kv_X12_394 : jg_Vc RX12 394 mX12_year 0 := ⟨(jg_m9 39 rfl rfl), wn_X12_year, we_X12_year, wi_X12, wc_X12_year, by decide +kernel, by decide +kernel, by decide +kernel, by decide +kernel⟩
set_option maxRecDepth 20000 in
theorem kv_X12_391 : jg_Vc RX12 391 mX12_bondOf 2 := ⟨(jg_m9 43 rfl rfl), wn_X12_bondOf, we_X12_bondOf, wi_X12, wc_X12_bondOf, by decide +kernel, by decide +kernel, by decide +kernel, by decide +kernel⟩
set_option maxRecDepth 20000 in
theorem ks_X12_388 : jg_Sc RX12 388 mX12_bondAt 2 := ⟨(jg_m9 47 rfl rfl), wt_X12_bondAt, wi_X12, wc_X12_bondAt, by decide +kernel, by decide +kernel, by decide +kernel, by decide +kernel⟩
set_option maxRecDepth 20000 in
theorem kv_X12_402 : jg_Vc RX12 402 mX12_paysBond 2 := ⟨(jg_m9 50 rfl rfl), wn_X12_paysBond, we_X12_paysBond, wi_X12, wc_X12_paysBond, by decide +kernel, by decide +kernel, by decide +kernel, by decide +kernel⟩
set_option maxRecDepth 20000 in
theorem kv_L_189 : jg_Vc RL 189 mX12_led 2 := ⟨(jg_m9 55 rfl rfl), wn_X12_led, we_X12_led, wi_X12, wc_X12_led, by decide +kernel, by decide +kernel, by decide +kernel, by decide +kernel⟩
set_option maxRecDepth 20000 in
theorem kv_L_192 : jg_Vc RL 192 mX12_quay 2 := ⟨(jg_m9 59 rfl rfl), wn_X12_quay, we_X12_quay, wi_X12, wc_X12_quay, by decide +kernel, by decide +kernel, by decide +kernel, by decide +kernel⟩
set_option maxRecDepth 20000 in
theorem kv_L_129 : jg_Vc RL 129 mX12_feed 5 := ⟨(jg_m9 63 rfl rfl), wn_X12_feed, we_X12_feed, wi_X12, wc_X12_feed, by decide +kernel, by decide +kernel, by decide +kernel, by decide +kernel⟩
set_option maxRecDepth 20000 in
theorem kv_L_134 : jg_Vc RL 134 mX12_end 1 := ⟨(jg_m9 67 rfl rfl), wn_X12_end, we_X12_end, wi_X12, wc_X12_end, by decide +kernel, by decide +kernel, by decide +kernel, by decide +kernel⟩
set_option maxRecDepth 20000 in
theorem kv_L_206 : jg_Vc RL 206 mX12_fault 0 := ⟨(jg_m9 71 rfl rfl), wn_X12_fault, we_X12_fault, wi_X12, wc_X12_fault, by decide +kernel, by decide +kernel, by decide +kernel, by decide +kernel⟩
set_option maxRecDepth 20000 in
theorem kv_L_199 : jg_Vc RL 199 mX12_act 1 := ⟨(jg_m9 75 rfl rfl), wn_X12_act, we_X12_act, wi_X12, wc_X12_act, by decide +kernel, by decide +kernel, by decide +kernel, by decide +kernel⟩
set_option maxRecDepth 20000 in
theorem kv_X12_347 : jg_Vc RX12 347 mX12_uses 0 := ⟨(jg_m9 79 rfl rfl), wn_X12_uses, we_X12_uses, wi_X12, wc_X12_uses, by decide +kernel, by decide +kernel, by decide +kernel, by decide +kernel⟩
set_option maxRecDepth 20000 in
theorem kv_X12_350 : jg_Vc RX12 350 mX12_reads 0 := ⟨(jg_m9 83 rfl rfl), wn_X12_reads, we_X12_reads, wi_X12, wc_X12_reads, by decide +kernel, by decide +kernel, by decide +kernel, by decide +kernel⟩
set_option maxRecDepth 20000 in
theorem kv_X12_344 : jg_Vc RX12 344 mX12_readAll 0 := ⟨(jg_m9 87 rfl rfl), wn_X12_readAll, we_X12_readAll, wi_X12, wc_X12_readAll, by decide +kernel, by decide +kernel, by decide +kernel, by decide +kernel⟩
set_option maxRecDepth 20000 in
theorem kv_X12_223 : jg_Vc RX12 223 mX12_blanks 0 := ⟨(jg_m9 91 rfl rfl), wn_X12_blanks, we_X12_blanks, wi_X12, wc_X12_blanks, by decide +kernel, by decide +kernel, by decide +kernel, by decide +kernel⟩
set_option maxRecDepth 20000 in
theorem kv_X12_217 : jg_Vc RX12 217 mX12_isAt 2 := ⟨(jg_m9 95 rfl rfl), wn_X12_isAt, we_X12_isAt, wi_X12, wc_X12_isAt, by decide +kernel, by decide +kernel, by decide +kernel, by decide +kernel⟩
set_option maxRecDepth 20000 in
theorem kv_X12_341 : jg_Vc RX12 341 mX12_readLine 1 := ⟨(jg_m9 99 rfl rfl), wn_X12_readLine, we_X12_readLine, wi_X12, wc_X12_readLine, by decide +kernel, by decide +kernel, by decide +kernel, by decide +kernel⟩
set_option maxRecDepth 20000 in
theorem kv_X12_235 : jg_Vc RX12 235 mX12_word 0 := ⟨(jg_m9 103 rfl rfl), wn_X12_word, we_X12_word, wi_X12, wc_X12_word, by decide +kernel, by decide +kernel, by decide +kernel, by decide +kernel⟩
set_option maxRecDepth 20000 in
theorem kv_X12_333 : jg_Vc RX12 333 mX12_sortOf 0 := ⟨(jg_m9 107 rfl rfl), wn_X12_sortOf, we_X12_sortOf, wi_X12, wc_X12_sortOf, by decide +kernel, by decide +kernel, by decide +kernel, by decide +kernel⟩
set_option maxRecDepth 20000 in
theorem kv_X12_238 : jg_Vc RX12 238 mX12_isWord 1 := ⟨(jg_m9 112 rfl rfl), wn_X12_isWord, we_X12_isWord, wi_X12, wc_X12_isWord, by decide +kernel, by decide +kernel, by decide +kernel, by decide +kernel⟩
set_option maxRecDepth 20000 in
theorem kv_X12_226 : jg_Vc RX12 226 mJ0_length_8abf5 0 := ⟨(jg_m9 116 rfl rfl), wn_J0_length_8abf5, we_J0_length_8abf5, wi_J0, wc_J0_length_8abf5, by decide +kernel, by decide +kernel, by decide +kernel, by decide +kernel⟩
set_option maxRecDepth 20000 in
theorem kv_X12_231 : jg_Vc RX12 231 mJ0_charAt_5068e 1 := ⟨(jg_m9 117 rfl rfl), wn_J0_charAt_5068e, we_J0_charAt_5068e, wi_J0, wc_J0_charAt_5068e, by decide +kernel, by decide +kernel, by decide +kernel, by decide +kernel⟩
set_option maxRecDepth 20000 in
theorem kv_X12_336 : jg_Vc RX12 336 mX12_readTurn 1 := ⟨(jg_m9 125 rfl rfl), wn_X12_readTurn, we_X12_readTurn, wi_X12, wc_X12_readTurn, by decide +kernel, by decide +kernel, by decide +kernel, by decide +kernel⟩
set_option maxRecDepth 20000 in
theorem kv_X12_284 : jg_Vc RX12 284 mX12_passes 1 := ⟨(jg_m9 134 rfl rfl), wn_X12_passes, we_X12_passes, wi_X12, wc_X12_passes, by decide +kernel, by decide +kernel, by decide +kernel, by decide +kernel⟩
set_option maxRecDepth 20000 in
theorem kv_X12_301 : jg_Vc RX12 301 mX12_number 1 := ⟨(jg_m9 139 rfl rfl), wn_X12_number, we_X12_number, wi_X12, wc_X12_number, by decide +kernel, by decide +kernel, by decide +kernel, by decide +kernel⟩
set_option maxRecDepth 20000 in
theorem kv_X12_278 : jg_Vc RX12 278 mX12_readCond 0 := ⟨(jg_m9 144 rfl rfl), wn_X12_readCond, we_X12_readCond, wi_X12, wc_X12_readCond, by decide +kernel, by decide +kernel, by decide +kernel, by decide +kernel⟩
set_option maxRecDepth 20000 in
theorem kv_X12_306 : jg_Vc RX12 306 mX12_readAllOf 0 := ⟨(jg_m9 148 rfl rfl), wn_X12_readAllOf, we_X12_readAllOf, wi_X12, wc_X12_readAllOf, by decide +kernel, by decide +kernel, by decide +kernel, by decide +kernel⟩
set_option maxRecDepth 20000 in
theorem kv_X12_287 : jg_Vc RX12 287 mX12_readAtom 0 := ⟨(jg_m9 152 rfl rfl), wn_X12_readAtom, we_X12_readAtom, wi_X12, wc_X12_readAtom, by decide +kernel, by decide +kernel, by decide +kernel, by decide +kernel⟩
set_option maxRecDepth 20000 in
theorem kv_X12_272 : jg_Vc RX12 272 mX12_sign 1 := ⟨(jg_m9 156 rfl rfl), wn_X12_sign, we_X12_sign, wi_X12, wc_X12_sign, by decide +kernel, by decide +kernel, by decide +kernel, by decide +kernel⟩
set_option maxRecDepth 20000 in
theorem kv_X12_290 : jg_Vc RX12 290 mX12_adds 2 := ⟨(jg_m9 161 rfl rfl), wn_X12_adds, we_X12_adds, wi_X12, wc_X12_adds, by decide +kernel, by decide +kernel, by decide +kernel, by decide +kernel⟩
set_option maxRecDepth 20000 in
theorem kv_X12_294 : jg_Vc RX12 294 mX12_wordOf 0 := ⟨(jg_m9 165 rfl rfl), wn_X12_wordOf, we_X12_wordOf, wi_X12, wc_X12_wordOf, by decide +kernel, by decide +kernel, by decide +kernel, by decide +kernel⟩
set_option maxRecDepth 20000 in
theorem kv_X12_297 : jg_Vc RX12 297 mX12_factOf 0 := ⟨(jg_m9 176 rfl rfl), wn_X12_factOf, we_X12_factOf, wi_X12, wc_X12_factOf, by decide +kernel, by decide +kernel, by decide +kernel, by decide +kernel⟩
set_option maxRecDepth 20000 in
theorem kv_X12_353 : jg_Vc RX12 353 mX12_copies 3 := ⟨(jg_m9 185 rfl rfl), wn_X12_copies, we_X12_copies, wi_X12, wc_X12_copies, by decide +kernel, by decide +kernel, by decide +kernel, by decide +kernel⟩
set_option maxRecDepth 20000 in
theorem kv_L_216 : jg_Vc RL 216 mX12_judge 2 := ⟨(jg_m9 189 rfl rfl), wn_X12_judge, we_X12_judge, wi_X12, wc_X12_judge, by decide +kernel, by decide +kernel, by decide +kernel, by decide +kernel⟩
set_option maxRecDepth 20000 in
theorem kv_X12_374 : jg_Vc RX12 374 mX12_firstOf 2 := ⟨(jg_m9 193 rfl rfl), wn_X12_firstOf, we_X12_firstOf, wi_X12, wc_X12_firstOf, by decide +kernel, by decide +kernel, by decide +kernel, by decide +kernel⟩
set_option maxRecDepth 20000 in
theorem kv_X12_377 : jg_Vc RX12 377 mX12_mostBack 1 := ⟨(jg_m9 197 rfl rfl), wn_X12_mostBack, we_X12_mostBack, wi_X12, wc_X12_mostBack, by decide +kernel, by decide +kernel, by decide +kernel, by decide +kernel⟩
set_option maxRecDepth 20000 in
theorem kv_L_219 : jg_Vc RL 219 mX12_back 1 := ⟨(jg_m9 201 rfl rfl), wn_X12_back, we_X12_back, wi_X12, wc_X12_back, by decide +kernel, by decide +kernel, by decide +kernel, by decide +kernel⟩
set_option maxRecDepth 20000 in
theorem kv_L_202 : jg_Vc RL 202 mX12_propose 1 := ⟨(jg_m9 206 rfl rfl), wn_X12_propose, we_X12_propose, wi_X12, wc_X12_propose, by decide +kernel, by decide +kernel, by decide +kernel, by decide +kernel⟩
set_option maxRecDepth 20000 in
theorem kv_L_210 : jg_Vc RL 210 mX12_vote 2 := ⟨(jg_m9 210 rfl rfl), wn_X12_vote, we_X12_vote, wi_X12, wc_X12_vote, by decide +kernel, by decide +kernel, by decide +kernel, by decide +kernel⟩
set_option maxRecDepth 20000 in
theorem kv_X12_385 : jg_Vc RX12 385 mX12_votesOf 1 := ⟨(jg_m9 214 rfl rfl), wn_X12_votesOf, we_X12_votesOf, wi_X12, wc_X12_votesOf, by decide +kernel, by decide +kernel, by decide +kernel, by decide +kernel⟩
set_option maxRecDepth 20000 in
theorem kv_X12_382 : jg_Vc RX12 382 mX12_looksAtPayer 1 := ⟨(jg_m9 218 rfl rfl), wn_X12_looksAtPayer, we_X12_looksAtPayer, wi_X12, wc_X12_looksAtPayer, by decide +kernel, by decide +kernel, by decide +kernel, by decide +kernel⟩
set_option maxRecDepth 20000 in
theorem kv_L_213 : jg_Vc RL 213 mX12_close 0 := ⟨(jg_m9 222 rfl rfl), wn_X12_close, we_X12_close, wi_X12, wc_X12_close, by decide +kernel, by decide +kernel, by decide +kernel, by decide +kernel⟩
set_option maxRecDepth 20000 in
theorem kv_L_222 : jg_Vc RL 222 mX12_pays 2 := ⟨(jg_m9 226 rfl rfl), wn_X12_pays, we_X12_pays, wi_X12, wc_X12_pays, by decide +kernel, by decide +kernel, by decide +kernel, by decide +kernel⟩
set_option maxRecDepth 20000 in
theorem kv_L_225 : jg_Vc RL 225 mX12_cash 1 := ⟨(jg_m9 230 rfl rfl), wn_X12_cash, we_X12_cash, wi_X12, wc_X12_cash, by decide +kernel, by decide +kernel, by decide +kernel, by decide +kernel⟩
set_option maxRecDepth 20000 in
theorem kv_L_228 : jg_Vc RL 228 mX12_bond 4 := ⟨(jg_m9 234 rfl rfl), wn_X12_bond, we_X12_bond, wi_X12, wc_X12_bond, by decide +kernel, by decide +kernel, by decide +kernel, by decide +kernel⟩
set_option maxRecDepth 20000 in
theorem kv_X12_397 : jg_Vc RX12 397 mX12_isOver 1 := ⟨(jg_m9 238 rfl rfl), wn_X12_isOver, we_X12_isOver, wi_X12, wc_X12_isOver, by decide +kernel, by decide +kernel, by decide +kernel, by decide +kernel⟩
set_option maxRecDepth 20000 in
theorem kv_L_231 : jg_Vc RL 231 mX12_owes 2 := ⟨(jg_m10 2 rfl rfl), wn_X12_owes, we_X12_owes, wi_X12, wc_X12_owes, by decide +kernel, by decide +kernel, by decide +kernel, by decide +kernel⟩
set_option maxRecDepth 20000 in
theorem kv_L_235 : jg_Vc RL 235 mX12_bring 0 := ⟨(jg_m10 6 rfl rfl), wn_X12_bring, we_X12_bring, wi_X12, wc_X12_bring, by decide +kernel, by decide +kernel, by decide +kernel, by decide +kernel⟩
set_option maxRecDepth 20000 in
theorem kv_X12_408 : jg_Vc RX12 408 mX12_brings 3 := ⟨(jg_m10 10 rfl rfl), wn_X12_brings, we_X12_brings, wi_X12, wc_X12_brings, by decide +kernel, by decide +kernel, by decide +kernel, by decide +kernel⟩
set_option maxRecDepth 20000 in
theorem kv_L_238 : jg_Vc RL 238 mX12_work 4 := ⟨(jg_m10 14 rfl rfl), wn_X12_work, we_X12_work, wi_X12, wc_X12_work, by decide +kernel, by decide +kernel, by decide +kernel, by decide +kernel⟩
set_option maxRecDepth 20000 in
theorem kv_L_241 : jg_Vc RL 241 mX12_worth 2 := ⟨(jg_m10 19 rfl rfl), wn_X12_worth, we_X12_worth, wi_X12, wc_X12_worth, by decide +kernel, by decide +kernel, by decide +kernel, by decide +kernel⟩
set_option maxRecDepth 20000 in
theorem kv_X12_412 : jg_Vc RX12 412 mX12_worthOf 2 := ⟨(jg_m10 23 rfl rfl), wn_X12_worthOf, we_X12_worthOf, wi_X12, wc_X12_worthOf, by decide +kernel, by decide +kernel, by decide +kernel, by decide +kernel⟩
set_option maxRecDepth 20000 in
theorem kv_L_244 : jg_Vc RL 244 mX12_best 1 := ⟨(jg_m10 27 rfl rfl), wn_X12_best, we_X12_best, wi_X12, wc_X12_best, by decide +kernel, by decide +kernel, by decide +kernel, by decide +kernel⟩
set_option maxRecDepth 20000 in
theorem ks_X12_415 : jg_Sc RX12 415 mJ6_bitCount_0f7a4 1 := ⟨(jg_m10 31 rfl rfl), wt_J6_bitCount_0f7a4, wi_J6, wc_J6_bitCount_0f7a4, by decide +kernel, by decide +kernel, by decide +kernel, by decide +kernel⟩
set_option maxRecDepth 20000 in
theorem kv_L_247 : jg_Vc RL 247 mX12_another 2 := ⟨(jg_m10 32 rfl rfl), wn_X12_another, we_X12_another, wi_X12, wc_X12_another, by decide +kernel, by decide +kernel, by decide +kernel, by decide +kernel⟩
set_option maxRecDepth 20000 in
theorem kv_L_259 : jg_Vc RL 259 mX12_count 1 := ⟨(jg_m10 36 rfl rfl), wn_X12_count, we_X12_count, wi_X12, wc_X12_count, by decide +kernel, by decide +kernel, by decide +kernel, by decide +kernel⟩
set_option maxRecDepth 20000 in
theorem kv_X12_420 : jg_Vc RX12 420 mX12_sumCells 1 := ⟨(jg_m10 40 rfl rfl), wn_X12_sumCells, we_X12_sumCells, wi_X12, wc_X12_sumCells, by decide +kernel, by decide +kernel, by decide +kernel, by decide +kernel⟩
set_option maxRecDepth 20000 in
theorem kc_L_8 : Cond.classLink RL 8 RX11 ∈ jg_ws := (jg_m1 30 rfl rfl)
set_option maxRecDepth 20000 in
theorem kn_X11 : Cond.instantiable RX11 5 ∈ jg_ws := (jg_m1 31 rfl rfl)
set_option maxRecDepth 20000 in
theorem kc_X11_17 : Cond.classLink RX11 17 RX7 ∈ jg_ws := (jg_m1 38 rfl rfl)
set_option maxRecDepth 20000 in
theorem kn_X7 : Cond.instantiable RX7 12 ∈ jg_ws := (jg_m1 39 rfl rfl)
set_option maxRecDepth 20000 in
theorem ka_byte : Cond.arrayClass .byte ∈ jg_ws := (jg_m1 82 rfl rfl)
set_option maxRecDepth 20000 in
theorem ka_int : Cond.arrayClass .int ∈ jg_ws := (jg_m1 83 rfl rfl)
set_option maxRecDepth 20000 in
theorem kc_X11_24 : Cond.classLink RX11 24 RX2 ∈ jg_ws := (jg_m1 84 rfl rfl)
set_option maxRecDepth 20000 in
theorem kn_X2 : Cond.instantiable RX2 10 ∈ jg_ws := (jg_m1 85 rfl rfl)
set_option maxRecDepth 20000 in
theorem kc_X2_15 : Cond.classLink RX2 15 RX8 ∈ jg_ws := (jg_m1 90 rfl rfl)
set_option maxRecDepth 20000 in
theorem kn_X8 : Cond.instantiable RX8 14 ∈ jg_ws := (jg_m1 91 rfl rfl)
set_option maxRecDepth 20000 in
theorem kc_X2_22 : Cond.classLink RX2 22 RX10 ∈ jg_ws := (jg_m1 152 rfl rfl)
set_option maxRecDepth 20000 in
theorem kn_X10 : Cond.instantiable RX10 6 ∈ jg_ws := (jg_m1 153 rfl rfl)
set_option maxRecDepth 20000 in
theorem kc_X2_29 : Cond.classLink RX2 29 RX3 ∈ jg_ws := (jg_m1 181 rfl rfl)
set_option maxRecDepth 20000 in
theorem kn_X3 : Cond.instantiable RX3 10 ∈ jg_ws := (jg_m1 182 rfl rfl)
set_option maxRecDepth 20000 in
theorem kc_X3_9 : Cond.classLink RX3 9 RX0 ∈ jg_ws := (jg_m1 187 rfl rfl)
set_option maxRecDepth 20000 in
theorem kn_X0 : Cond.instantiable RX0 6 ∈ jg_ws := (jg_m1 188 rfl rfl)
set_option maxRecDepth 20000 in
theorem ka_boolean : Cond.arrayClass .boolean ∈ jg_ws := (jg_m2 8 rfl rfl)
set_option maxRecDepth 20000 in
theorem kc_X2_36 : Cond.classLink RX2 36 RX5 ∈ jg_ws := (jg_m2 9 rfl rfl)
set_option maxRecDepth 20000 in
theorem kn_X5 : Cond.instantiable RX5 8 ∈ jg_ws := (jg_m2 10 rfl rfl)
set_option maxRecDepth 20000 in
theorem kc_X5_9 : Cond.classLink RX5 9 RX1 ∈ jg_ws := (jg_m2 15 rfl rfl)
set_option maxRecDepth 20000 in
theorem kn_X1 : Cond.instantiable RX1 9 ∈ jg_ws := (jg_m2 17 rfl rfl)
set_option maxRecDepth 20000 in
theorem kc_X5_18 : Cond.classLink RX5 18 RX9 ∈ jg_ws := (jg_m2 71 rfl rfl)
set_option maxRecDepth 20000 in
theorem kn_X9 : Cond.instantiable RX9 19 ∈ jg_ws := (jg_m2 73 rfl rfl)
set_option maxRecDepth 20000 in
theorem kc_X2_49 : Cond.classLink RX2 49 RX6 ∈ jg_ws := (jg_m2 214 rfl rfl)
set_option maxRecDepth 20000 in
theorem kn_X6 : Cond.instantiable RX6 14 ∈ jg_ws := (jg_m2 215 rfl rfl)
set_option maxRecDepth 20000 in
theorem kc_X2_56 : Cond.classLink RX2 56 RX4 ∈ jg_ws := (jg_m3 37 rfl rfl)
set_option maxRecDepth 20000 in
theorem kn_X4 : Cond.instantiable RX4 12 ∈ jg_ws := (jg_m3 38 rfl rfl)
set_option maxRecDepth 20000 in
theorem kc_X4_30 : Cond.classLink RX4 30 "[[I" ∈ jg_ws := (jg_m3 43 rfl rfl)
set_option maxRecDepth 20000 in
theorem kk_X4_65 : Cond.constant RX4 65 1000000 ∈ jg_ws := (jg_m3 186 rfl rfl)
set_option maxRecDepth 20000 in
theorem kc_L_13 : Cond.classLink RL 13 "java/lang/IndexOutOfBoundsException" ∈ jg_ws := (jg_m4 107 rfl rfl)
set_option maxRecDepth 20000 in
theorem kc_L_15 : Cond.classLink RL 15 "java/lang/IllegalArgumentException" ∈ jg_ws := (jg_m4 108 rfl rfl)
set_option maxRecDepth 20000 in
theorem kc_L_17 : Cond.classLink RL 17 "java/lang/IllegalStateException" ∈ jg_ws := (jg_m4 109 rfl rfl)
set_option maxRecDepth 20000 in
theorem kc_X11_459 : Cond.classLink RX11 459 "java/lang/IndexOutOfBoundsException" ∈ jg_ws := (jg_m4 120 rfl rfl)
set_option maxRecDepth 20000 in
theorem kc_X11_271 : Cond.classLink RX11 271 "java/lang/IllegalArgumentException" ∈ jg_ws := (jg_m4 195 rfl rfl)
set_option maxRecDepth 20000 in
theorem kc_X11_466 : Cond.classLink RX11 466 "java/lang/IllegalStateException" ∈ jg_ws := (jg_m4 214 rfl rfl)
set_option maxRecDepth 20000 in
theorem kc_L_31 : Cond.classLink RL 31 "java/lang/UnsupportedOperationException" ∈ jg_ws := (jg_m5 11 rfl rfl)
set_option maxRecDepth 20000 in
theorem kc_X11_471 : Cond.classLink RX11 471 "java/lang/UnsupportedOperationException" ∈ jg_ws := (jg_m5 19 rfl rfl)
set_option maxRecDepth 20000 in
theorem kc_L_40 : Cond.classLink RL 40 "java/util/NoSuchElementException" ∈ jg_ws := (jg_m5 56 rfl rfl)
set_option maxRecDepth 20000 in
theorem kc_X11_105 : Cond.classLink RX11 105 "java/util/NoSuchElementException" ∈ jg_ws := (jg_m5 69 rfl rfl)
set_option maxRecDepth 20000 in
theorem kk_X11_122 : Cond.constant RX11 122 50000 ∈ jg_ws := (jg_m5 111 rfl rfl)
set_option maxRecDepth 20000 in
theorem kk_X11_153 : Cond.constant RX11 153 1000000 ∈ jg_ws := (jg_m5 145 rfl rfl)
set_option maxRecDepth 20000 in
theorem kk_X11_476 : Cond.constantLong RX11 476 2000000000 ∈ jg_ws := (jg_m5 218 rfl rfl)
set_option maxRecDepth 20000 in
theorem kk_X7_132 : Cond.constant RX7 132 999999 ∈ jg_ws := (jg_m6 208 rfl rfl)
set_option maxRecDepth 20000 in
theorem kc_X7_67 : Cond.classLink RX7 67 RX0 ∈ jg_ws := (jg_m6 237 rfl rfl)
set_option maxRecDepth 20000 in
theorem kc_J7_317 : Cond.classLink RJ7 317 "[I" ∈ jg_ws := (jg_m7 7 rfl rfl)
set_option maxRecDepth 20000 in
theorem kk_X3_64 : Cond.constantLong RX3 64 100 ∈ jg_ws := (jg_m7 60 rfl rfl)
set_option maxRecDepth 20000 in
theorem kk_X2_315 : Cond.constantLong RX2 315 100 ∈ jg_ws := (jg_m7 92 rfl rfl)
set_option maxRecDepth 20000 in
theorem kk_X11_391 : Cond.constant RX11 391 100000 ∈ jg_ws := (jg_m7 148 rfl rfl)
set_option maxRecDepth 20000 in
theorem kk_J6_265 : Cond.constant RJ6 265 1431655765 ∈ jg_ws := (jg_m7 179 rfl rfl)
set_option maxRecDepth 20000 in
theorem kk_J6_266 : Cond.constant RJ6 266 858993459 ∈ jg_ws := (jg_m7 180 rfl rfl)
set_option maxRecDepth 20000 in
theorem kk_J6_267 : Cond.constant RJ6 267 252645135 ∈ jg_ws := (jg_m7 181 rfl rfl)
set_option maxRecDepth 20000 in
theorem kc_L_122 : Cond.classLink RL 122 RX12 ∈ jg_ws := (jg_m7 197 rfl rfl)
set_option maxRecDepth 20000 in
theorem kn_X12 : Cond.instantiable RX12 23 ∈ jg_ws := (jg_m7 198 rfl rfl)
set_option maxRecDepth 20000 in
theorem kk_X12_103 : Cond.constant RX12 103 50000 ∈ jg_ws := (jg_m8 99 rfl rfl)
set_option maxRecDepth 20000 in
theorem kk_X12_110 : Cond.constant RX12 110 1000000 ∈ jg_ws := (jg_m8 119 rfl rfl)
set_option maxRecDepth 20000 in
theorem kk_X12_53 : Cond.constantLong RX12 53 2000000000 ∈ jg_ws := (jg_m8 225 rfl rfl)
set_option maxRecDepth 20000 in
theorem kk_X12_400 : Cond.constantLong RX12 400 10000 ∈ jg_ws := (jg_m9 54 rfl rfl)
set_option maxRecDepth 20000 in
theorem kk_X12_300 : Cond.constant RX12 300 999999 ∈ jg_ws := (jg_m9 138 rfl rfl)
set_option maxRecDepth 20000 in
theorem kk_X12_380 : Cond.constantLong RX12 380 100 ∈ jg_ws := (jg_m9 205 rfl rfl)
set_option maxRecDepth 20000 in
theorem kk_X12_411 : Cond.constant RX12 411 100000 ∈ jg_ws := (jg_m10 18 rfl rfl)
set_option maxRecDepth 20000 in
theorem ka_long : Cond.arrayClass .long ∈ jg_ws := (jg_m10 44 rfl rfl)

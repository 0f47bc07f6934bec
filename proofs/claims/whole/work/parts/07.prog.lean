/-! ===== the methods, the fields and calls that their pools name ===== -/
abbrev mX0_init : jM := (yX0_init, cX0_init, 1, none)
abbrev mX7_holds : jM := (yX7_holds, cX7_holds, 3, (some .boolean))
abbrev mX7_bit : jM := (yX7_bit, cX7_bit, 1, (some .long))
abbrev mX0_untie : jM := (yX0_untie, cX0_untie, 3, (some .boolean))
abbrev mX0_tie : jM := (yX0_tie, cX0_tie, 5, (some .boolean))
abbrev mJ13_bitCount_95d88 : jM := (yJ13_bitCount_95d88, cJ13_bitCount_95d88, 2, (some .int))
abbrev mX0_brokenBy : jM := (yX0_brokenBy, cX0_brokenBy, 6, (some .int))
abbrev mX0_brokenByMelt : jM := (yX0_brokenByMelt, cX0_brokenByMelt, 7, (some .int))
abbrev mX2_allLaid : jM := (yX2_allLaid, cX2_allLaid, 4, (some .long))
abbrev mX2_around : jM := (yX2_around, cX2_around, 3, (some .long))
abbrev mX0_brokenIn : jM := (yX0_brokenIn, cX0_brokenIn, 6, (some .int))
abbrev mX1_init : jM := (yX1_init, cX1_init, 4, none)
abbrev mX1_take : jM := (yX1_take, cX1_take, 2, (some .int))
abbrev mX1_largestBut : jM := (yX1_largestBut, cX1_largestBut, 7, (some .int))
abbrev mX1_choose : jM := (yX1_choose, cX1_choose, 5, none)
abbrev mX3_coreOf : jM := (yX3_coreOf, cX3_coreOf, 6, (some .int))
abbrev mX6_apart : jM := (yX6_apart, cX6_apart, 6, (some .int))
abbrev mX1_matchRest : jM := (yX1_matchRest, cX1_matchRest, 6, none)
abbrev mX1_match : jM := (yX1_match, cX1_match, 4, none)
abbrev mX1_senseFor : jM := (yX1_senseFor, cX1_senseFor, 3, (some .int))
abbrev mX1_leastSum : jM := (yX1_leastSum, cX1_leastSum, 1, (some .int))
abbrev mJ7_fill_53178 : jM := (yJ7_fill_53178, cJ7_fill_53178, 4, none)
abbrev mX2_init : jM := (yX2_init, cX2_init, 2, none)
abbrev mX2_isOpen : jM := (yX2_isOpen, cX2_isOpen, 2, (some .boolean))
abbrev mX2_isHeap : jM := (yX2_isHeap, cX2_isHeap, 2, (some .boolean))
abbrev mX6_all : jM := (yX6_all, cX6_all, 1, (some .long))
abbrev mX2_allOpen : jM := (yX2_allOpen, cX2_allOpen, 1, (some .long))
abbrev mX2_howMany : jM := (yX2_howMany, cX2_howMany, 3, (some .int))
abbrev mX6_between : jM := (yX6_between, cX6_between, 3, (some .int))
abbrev mX6_toGroup : jM := (yX6_toGroup, cX6_toGroup, 6, (some .int))
abbrev mX2_costOfAll : jM := (yX2_costOfAll, cX2_costOfAll, 3, (some .int))
abbrev mX2_pile : jM := (yX2_pile, cX2_pile, 5, none)
abbrev mX2_open : jM := (yX2_open, cX2_open, 5, none)
abbrev mX2_putAlone : jM := (yX2_putAlone, cX2_putAlone, 2, none)
abbrev mX2_putInto : jM := (yX2_putInto, cX2_putInto, 5, none)
abbrev mX2_melt : jM := (yX2_melt, cX2_melt, 5, none)
abbrev mX2_addFar : jM := (yX2_addFar, cX2_addFar, 4, none)
abbrev mX2_measure : jM := (yX2_measure, cX2_measure, 4, none)
abbrev mX2_layNew : jM := (yX2_layNew, cX2_layNew, 6, none)
abbrev mX3_init : jM := (yX3_init, cX3_init, 2, none)
abbrev mX3_marksOut : jM := (yX3_marksOut, cX3_marksOut, 7, (some .boolean))
abbrev mX3_nameOfOne : jM := (yX3_nameOfOne, cX3_nameOfOne, 4, (some .int))
abbrev mX3_nameOfTwo : jM := (yX3_nameOfTwo, cX3_nameOfTwo, 5, (some .int))
abbrev mX3_nameOfThree : jM := (yX3_nameOfThree, cX3_nameOfThree, 8, (some .int))
abbrev mX3_nameOf : jM := (yX3_nameOf, cX3_nameOf, 4, (some .int))
abbrev mX4_init : jM := (yX4_init, cX4_init, 3, none)
abbrev mX4_layRest : jM := (yX4_layRest, cX4_layRest, 10, none)
abbrev mX4_leastCost : jM := (yX4_leastCost, cX4_leastCost, 2, (some .int))
abbrev mX5_init : jM := (yX5_init, cX5_init, 4, none)
abbrev mX5_layOpen : jM := (yX5_layOpen, cX5_layOpen, 7, (some .boolean))
abbrev mX5_layFirst : jM := (yX5_layFirst, cX5_layFirst, 2, (some .boolean))
abbrev mX5_betters : jM := (yX5_betters, cX5_betters, 2, (some .boolean))
abbrev mX5_moveUse : jM := (yX5_moveUse, cX5_moveUse, 11, (some .boolean))
abbrev mX5_moveFirst : jM := (yX5_moveFirst, cX5_moveFirst, 2, (some .boolean))
abbrev mX5_meltInto : jM := (yX5_meltInto, cX5_meltInto, 4, (some .boolean))
abbrev mX5_meltFirst : jM := (yX5_meltFirst, cX5_meltFirst, 2, (some .boolean))
abbrev mX5_makeSteps : jM := (yX5_makeSteps, cX5_makeSteps, 3, (some .int))
abbrev mX6_init : jM := (yX6_init, cX6_init, 1, none)
abbrev mX6_has : jM := (yX6_has, cX6_has, 2, (some .boolean))
abbrev mX6_setBetween : jM := (yX6_setBetween, cX6_setBetween, 4, none)
abbrev mX6_take : jM := (yX6_take, cX6_take, 5, (some .int))
abbrev mX6_weigh : jM := (yX6_weigh, cX6_weigh, 6, none)
abbrev mX7_within : jM := (yX7_within, cX7_within, 3, (some .boolean))
abbrev mX6_ofYears : jM := (yX6_ofYears, cX6_ofYears, 7, (some .int))
abbrev mX6_earliestYear : jM := (yX6_earliestYear, cX6_earliestYear, 5, (some .int))
abbrev mX7_init : jM := (yX7_init, cX7_init, 1, none)
abbrev mX7_weight : jM := (yX7_weight, cX7_weight, 3, (some .boolean))
abbrev mX7_prices : jM := (yX7_prices, cX7_prices, 3, (some .boolean))
abbrev mX7_marks : jM := (yX7_marks, cX7_marks, 3, (some .boolean))
abbrev mX7_use : jM := (yX7_use, cX7_use, 4, (some .int))
abbrev mX7_fix : jM := (yX7_fix, cX7_fix, 3, (some .boolean))
abbrev mX7_isPair : jM := (yX7_isPair, cX7_isPair, 3, (some .boolean))
abbrev mX7_bond : jM := (yX7_bond, cX7_bond, 4, (some .boolean))
abbrev mX7_free : jM := (yX7_free, cX7_free, 3, (some .boolean))
abbrev mX7_settle : jM := (yX7_settle, cX7_settle, 2, (some .int))
abbrev mX7_heap : jM := (yX7_heap, cX7_heap, 2, (some .int))
abbrev mX7_membersOf : jM := (yX7_membersOf, cX7_membersOf, 2, (some .long))
abbrev mX7_size : jM := (yX7_size, cX7_size, 2, (some .int))
abbrev mX7_far : jM := (yX7_far, cX7_far, 3, (some .int))
abbrev mX7_cost : jM := (yX7_cost, cX7_cost, 1, (some .int))
abbrev mX7_broken : jM := (yX7_broken, cX7_broken, 1, (some .int))
abbrev mX7_best : jM := (yX7_best, cX7_best, 1, (some .int))
abbrev mX7_name : jM := (yX7_name, cX7_name, 4, (some .int))
abbrev mX7_core : jM := (yX7_core, cX7_core, 4, (some .int))
abbrev mX7_sense : jM := (yX7_sense, cX7_sense, 2, (some .int))
abbrev mX7_matched : jM := (yX7_matched, cX7_matched, 2, (some .int))
abbrev mX7_sum : jM := (yX7_sum, cX7_sum, 1, (some .int))
abbrev mX7_share : jM := (yX7_share, cX7_share, 9, (some .int))
abbrev mX7_first : jM := (yX7_first, cX7_first, 4, (some .int))
abbrev mX7_count : jM := (yX7_count, cX7_count, 2, (some .int))
abbrev mX8_init : jM := (yX8_init, cX8_init, 2, none)
abbrev mX8_in : jM := (yX8_in, cX8_in, 3, (some .boolean))
abbrev mX8_isUse : jM := (yX8_isUse, cX8_isUse, 2, (some .boolean))
abbrev mX8_apart : jM := (yX8_apart, cX8_apart, 6, (some .int))
abbrev mX8_reckons : jM := (yX8_reckons, cX8_reckons, 3, none)
abbrev mX8_weight : jM := (yX8_weight, cX8_weight, 3, (some .boolean))
abbrev mX8_prices : jM := (yX8_prices, cX8_prices, 3, (some .boolean))
abbrev mX8_marks : jM := (yX8_marks, cX8_marks, 3, (some .boolean))
abbrev mX8_isHeap : jM := (yX8_isHeap, cX8_isHeap, 2, (some .boolean))
abbrev mX8_beside : jM := (yX8_beside, cX8_beside, 5, (some .int))
abbrev mX8_use : jM := (yX8_use, cX8_use, 9, (some .int))
abbrev mX8_leaves : jM := (yX8_leaves, cX8_leaves, 5, none)
abbrev mX8_goes : jM := (yX8_goes, cX8_goes, 4, none)
abbrev mX8_fix : jM := (yX8_fix, cX8_fix, 3, (some .boolean))
abbrev mX8_bondOf : jM := (yX8_bondOf, cX8_bondOf, 4, (some .int))
abbrev mX8_bond : jM := (yX8_bond, cX8_bond, 5, (some .boolean))
abbrev mX8_free : jM := (yX8_free, cX8_free, 4, (some .boolean))
abbrev mX8_isBroken : jM := (yX8_isBroken, cX8_isBroken, 4, (some .boolean))
abbrev mX8_breaks : jM := (yX8_breaks, cX8_breaks, 6, (some .int))
abbrev mX8_broken : jM := (yX8_broken, cX8_broken, 3, (some .int))
abbrev mX8_lays : jM := (yX8_lays, cX8_lays, 7, (some .boolean))
abbrev mX8_size : jM := (yX8_size, cX8_size, 4, (some .int))
abbrev mX8_moves : jM := (yX8_moves, cX8_moves, 10, (some .boolean))
abbrev mX8_melts : jM := (yX8_melts, cX8_melts, 8, (some .boolean))
abbrev mX8_goesOn : jM := (yX8_goesOn, cX8_goesOn, 3, (some .boolean))
abbrev mX8_settle : jM := (yX8_settle, cX8_settle, 3, (some .int))
abbrev mX8_heap : jM := (yX8_heap, cX8_heap, 2, (some .int))
abbrev mX8_far : jM := (yX8_far, cX8_far, 3, (some .int))
abbrev mX8_cost : jM := (yX8_cost, cX8_cost, 4, (some .int))
abbrev mX8_parted : jM := (yX8_parted, cX8_parted, 5, (some .int))
abbrev mX8_nexts : jM := (yX8_nexts, cX8_nexts, 4, (some .boolean))
abbrev mX8_best : jM := (yX8_best, cX8_best, 4, (some .int))
abbrev mX8_isName : jM := (yX8_isName, cX8_isName, 7, (some .boolean))
abbrev mX8_name : jM := (yX8_name, cX8_name, 6, (some .int))
abbrev mX8_core : jM := (yX8_core, cX8_core, 7, (some .int))
abbrev mX8_sense : jM := (yX8_sense, cX8_sense, 2, (some .int))
abbrev mX8_isGreat : jM := (yX8_isGreat, cX8_isGreat, 4, (some .boolean))
abbrev mX8_sumOf : jM := (yX8_sumOf, cX8_sumOf, 10, (some .int))
abbrev mX8_matches : jM := (yX8_matches, cX8_matches, 8, (some .int))
abbrev mX8_matched : jM := (yX8_matched, cX8_matched, 4, (some .int))
abbrev mX8_sum : jM := (yX8_sum, cX8_sum, 1, (some .int))
abbrev mX8_share : jM := (yX8_share, cX8_share, 7, (some .int))
abbrev mX8_first : jM := (yX8_first, cX8_first, 4, (some .int))
abbrev mX8_count : jM := (yX8_count, cX8_count, 4, (some .int))
abbrev mJ9_max_7cf53 : jM := (yJ9_max_7cf53, cJ9_max_7cf53, 2, (some .int))
abbrev mJ9_min_7cf53 : jM := (yJ9_min_7cf53, cJ9_min_7cf53, 2, (some .int))
theorem fX6_9 : jFL RX6 9 6 0 := ⟨_, rfl, by decide, jTB_mem (List.mem_of_getElem? (i := 71) (by decide +kernel)) rfl⟩
theorem fX6_15 : jFL RX6 15 6 1 := ⟨_, rfl, by decide, jTB_mem (List.mem_of_getElem? (i := 72) (by decide +kernel)) rfl⟩
theorem fX6_18 : jFL RX6 18 6 2 := ⟨_, rfl, by decide, jTB_mem (List.mem_of_getElem? (i := 73) (by decide +kernel)) rfl⟩
theorem fX3_28 : jFL RX3 28 6 2 := ⟨_, rfl, by decide, jTB_mem (List.mem_of_getElem? (i := 74) (by decide +kernel)) rfl⟩
theorem fX6_22 : jFL RX6 22 6 3 := ⟨_, rfl, by decide, jTB_mem (List.mem_of_getElem? (i := 75) (by decide +kernel)) rfl⟩
theorem fX6_25 : jFL RX6 25 6 4 := ⟨_, rfl, by decide, jTB_mem (List.mem_of_getElem? (i := 76) (by decide +kernel)) rfl⟩
theorem fX6_34 : jFL RX6 34 6 5 := ⟨_, rfl, by decide, jTB_mem (List.mem_of_getElem? (i := 77) (by decide +kernel)) rfl⟩
theorem fX5_37 : jFL RX5 37 6 5 := ⟨_, rfl, by decide, jTB_mem (List.mem_of_getElem? (i := 78) (by decide +kernel)) rfl⟩
theorem fX4_35 : jFL RX4 35 6 5 := ⟨_, rfl, by decide, jTB_mem (List.mem_of_getElem? (i := 79) (by decide +kernel)) rfl⟩
theorem fX2_39 : jFL RX2 39 6 5 := ⟨_, rfl, by decide, jTB_mem (List.mem_of_getElem? (i := 80) (by decide +kernel)) rfl⟩
theorem fX7_88 : jFL RX7 88 6 5 := ⟨_, rfl, by decide, jTB_mem (List.mem_of_getElem? (i := 81) (by decide +kernel)) rfl⟩
theorem fX1_90 : jFL RX1 90 6 5 := ⟨_, rfl, by decide, jTB_mem (List.mem_of_getElem? (i := 82) (by decide +kernel)) rfl⟩
theorem fX0_9 : jFL RX0 9 0 0 := ⟨_, rfl, by decide, jTB_mem (List.mem_of_getElem? (i := 104) (by decide +kernel)) rfl⟩
theorem fX0_15 : jFL RX0 15 0 1 := ⟨_, rfl, by decide, jTB_mem (List.mem_of_getElem? (i := 105) (by decide +kernel)) rfl⟩
theorem fX0_22 : jFL RX0 22 0 2 := ⟨_, rfl, by decide, jTB_mem (List.mem_of_getElem? (i := 106) (by decide +kernel)) rfl⟩
theorem fX7_186 : jFL RX7 186 0 2 := ⟨_, rfl, by decide, jTB_mem (List.mem_of_getElem? (i := 107) (by decide +kernel)) rfl⟩
theorem fX2_9 : jFL RX2 9 2 0 := ⟨_, rfl, by decide, jTB_mem (List.mem_of_getElem? (i := 122) (by decide +kernel)) rfl⟩
theorem fX2_15 : jFL RX2 15 2 1 := ⟨_, rfl, by decide, jTB_mem (List.mem_of_getElem? (i := 123) (by decide +kernel)) rfl⟩
theorem fX5_95 : jFL RX5 95 2 1 := ⟨_, rfl, by decide, jTB_mem (List.mem_of_getElem? (i := 124) (by decide +kernel)) rfl⟩
theorem fX7_112 : jFL RX7 112 2 1 := ⟨_, rfl, by decide, jTB_mem (List.mem_of_getElem? (i := 125) (by decide +kernel)) rfl⟩
theorem fX2_19 : jFL RX2 19 2 2 := ⟨_, rfl, by decide, jTB_mem (List.mem_of_getElem? (i := 126) (by decide +kernel)) rfl⟩
theorem fX5_71 : jFL RX5 71 2 2 := ⟨_, rfl, by decide, jTB_mem (List.mem_of_getElem? (i := 127) (by decide +kernel)) rfl⟩
theorem fX1_55 : jFL RX1 55 2 2 := ⟨_, rfl, by decide, jTB_mem (List.mem_of_getElem? (i := 128) (by decide +kernel)) rfl⟩
theorem fX7_193 : jFL RX7 193 2 2 := ⟨_, rfl, by decide, jTB_mem (List.mem_of_getElem? (i := 129) (by decide +kernel)) rfl⟩
theorem fX2_23 : jFL RX2 23 2 3 := ⟨_, rfl, by decide, jTB_mem (List.mem_of_getElem? (i := 130) (by decide +kernel)) rfl⟩
theorem fX5_67 : jFL RX5 67 2 3 := ⟨_, rfl, by decide, jTB_mem (List.mem_of_getElem? (i := 131) (by decide +kernel)) rfl⟩
theorem fX2_26 : jFL RX2 26 2 4 := ⟨_, rfl, by decide, jTB_mem (List.mem_of_getElem? (i := 132) (by decide +kernel)) rfl⟩
theorem fX7_74 : jFL RX7 74 2 4 := ⟨_, rfl, by decide, jTB_mem (List.mem_of_getElem? (i := 133) (by decide +kernel)) rfl⟩
theorem fX5_81 : jFL RX5 81 2 4 := ⟨_, rfl, by decide, jTB_mem (List.mem_of_getElem? (i := 134) (by decide +kernel)) rfl⟩
theorem fX2_30 : jFL RX2 30 2 5 := ⟨_, rfl, by decide, jTB_mem (List.mem_of_getElem? (i := 135) (by decide +kernel)) rfl⟩
theorem fX7_78 : jFL RX7 78 2 5 := ⟨_, rfl, by decide, jTB_mem (List.mem_of_getElem? (i := 136) (by decide +kernel)) rfl⟩
theorem fX5_9 : jFL RX5 9 5 0 := ⟨_, rfl, by decide, jTB_mem (List.mem_of_getElem? (i := 156) (by decide +kernel)) rfl⟩
theorem fX5_15 : jFL RX5 15 5 1 := ⟨_, rfl, by decide, jTB_mem (List.mem_of_getElem? (i := 157) (by decide +kernel)) rfl⟩
theorem fX5_19 : jFL RX5 19 5 2 := ⟨_, rfl, by decide, jTB_mem (List.mem_of_getElem? (i := 158) (by decide +kernel)) rfl⟩
theorem fX5_33 : jFL RX5 33 5 3 := ⟨_, rfl, by decide, jTB_mem (List.mem_of_getElem? (i := 159) (by decide +kernel)) rfl⟩
theorem fX7_190 : jFL RX7 190 5 3 := ⟨_, rfl, by decide, jTB_mem (List.mem_of_getElem? (i := 160) (by decide +kernel)) rfl⟩
theorem fX4_9 : jFL RX4 9 4 0 := ⟨_, rfl, by decide, jTB_mem (List.mem_of_getElem? (i := 176) (by decide +kernel)) rfl⟩
theorem fX4_15 : jFL RX4 15 4 1 := ⟨_, rfl, by decide, jTB_mem (List.mem_of_getElem? (i := 177) (by decide +kernel)) rfl⟩
theorem fX4_19 : jFL RX4 19 4 2 := ⟨_, rfl, by decide, jTB_mem (List.mem_of_getElem? (i := 178) (by decide +kernel)) rfl⟩
theorem fX4_23 : jFL RX4 23 4 3 := ⟨_, rfl, by decide, jTB_mem (List.mem_of_getElem? (i := 179) (by decide +kernel)) rfl⟩
theorem fX4_28 : jFL RX4 28 4 4 := ⟨_, rfl, by decide, jTB_mem (List.mem_of_getElem? (i := 180) (by decide +kernel)) rfl⟩
theorem fX3_9 : jFL RX3 9 3 0 := ⟨_, rfl, by decide, jTB_mem (List.mem_of_getElem? (i := 198) (by decide +kernel)) rfl⟩
theorem fX3_15 : jFL RX3 15 3 1 := ⟨_, rfl, by decide, jTB_mem (List.mem_of_getElem? (i := 199) (by decide +kernel)) rfl⟩
theorem fX7_81 : jFL RX7 81 3 1 := ⟨_, rfl, by decide, jTB_mem (List.mem_of_getElem? (i := 200) (by decide +kernel)) rfl⟩
theorem fX3_19 : jFL RX3 19 3 2 := ⟨_, rfl, by decide, jTB_mem (List.mem_of_getElem? (i := 201) (by decide +kernel)) rfl⟩
theorem fX7_84 : jFL RX7 84 3 2 := ⟨_, rfl, by decide, jTB_mem (List.mem_of_getElem? (i := 202) (by decide +kernel)) rfl⟩
theorem fX1_9 : jFL RX1 9 1 0 := ⟨_, rfl, by decide, jTB_mem (List.mem_of_getElem? (i := 216) (by decide +kernel)) rfl⟩
theorem fX1_15 : jFL RX1 15 1 1 := ⟨_, rfl, by decide, jTB_mem (List.mem_of_getElem? (i := 217) (by decide +kernel)) rfl⟩
theorem fX1_19 : jFL RX1 19 1 2 := ⟨_, rfl, by decide, jTB_mem (List.mem_of_getElem? (i := 218) (by decide +kernel)) rfl⟩
theorem fX1_23 : jFL RX1 23 1 3 := ⟨_, rfl, by decide, jTB_mem (List.mem_of_getElem? (i := 219) (by decide +kernel)) rfl⟩
theorem fX1_39 : jFL RX1 39 1 4 := ⟨_, rfl, by decide, jTB_mem (List.mem_of_getElem? (i := 220) (by decide +kernel)) rfl⟩
theorem fX7_189 : jFL RX7 189 1 4 := ⟨_, rfl, by decide, jTB_mem (List.mem_of_getElem? (i := 221) (by decide +kernel)) rfl⟩
theorem fX1_27 : jFL RX1 27 1 5 := ⟨_, rfl, by decide, jTB_mem (List.mem_of_getElem? (i := 222) (by decide +kernel)) rfl⟩
theorem fX1_46 : jFL RX1 46 1 6 := ⟨_, rfl, by decide, jTB_mem (List.mem_of_getElem? (i := 223) (by decide +kernel)) rfl⟩
theorem fX1_30 : jFL RX1 30 1 7 := ⟨_, rfl, by decide, jTB_mem (List.mem_of_getElem? (i := 224) (by decide +kernel)) rfl⟩
theorem fX1_33 : jFL RX1 33 1 8 := ⟨_, rfl, by decide, jTB_mem (List.mem_of_getElem? (i := 225) (by decide +kernel)) rfl⟩
theorem fX1_36 : jFL RX1 36 1 9 := ⟨_, rfl, by decide, jTB_mem (List.mem_of_getElem? (i := 226) (by decide +kernel)) rfl⟩
theorem fX1_49 : jFL RX1 49 1 10 := ⟨_, rfl, by decide, jTB_mem (List.mem_of_getElem? (i := 227) (by decide +kernel)) rfl⟩
theorem fX7_10 : jFL RX7 10 7 0 := ⟨_, rfl, by decide, jTB_mem (List.mem_of_getElem? (i := 251) (by decide +kernel)) rfl⟩
theorem fX7_19 : jFL RX7 19 7 1 := ⟨_, rfl, by decide, jTB_mem (List.mem_of_getElem? (i := 252) (by decide +kernel)) rfl⟩
theorem fX7_28 : jFL RX7 28 7 2 := ⟨_, rfl, by decide, jTB_mem (List.mem_of_getElem? (i := 253) (by decide +kernel)) rfl⟩
theorem fX7_37 : jFL RX7 37 7 3 := ⟨_, rfl, by decide, jTB_mem (List.mem_of_getElem? (i := 254) (by decide +kernel)) rfl⟩
theorem fX7_46 : jFL RX7 46 7 4 := ⟨_, rfl, by decide, jTB_mem (List.mem_of_getElem? (i := 255) (by decide +kernel)) rfl⟩
theorem fX7_53 : jFL RX7 53 7 5 := ⟨_, rfl, by decide, jTB_mem (List.mem_of_getElem? (i := 256) (by decide +kernel)) rfl⟩
theorem fX7_62 : jFL RX7 62 7 6 := ⟨_, rfl, by decide, jTB_mem (List.mem_of_getElem? (i := 257) (by decide +kernel)) rfl⟩
theorem fX8_9 : jFL RX8 9 8 0 := ⟨_, rfl, by decide, jTB_mem (List.mem_of_getElem? (i := 654) (by decide +kernel)) rfl⟩
theorem fX8_13 : jFL RX8 13 8 1 := ⟨_, rfl, by decide, jTB_mem (List.mem_of_getElem? (i := 655) (by decide +kernel)) rfl⟩
theorem fX8_17 : jFL RX8 17 8 2 := ⟨_, rfl, by decide, jTB_mem (List.mem_of_getElem? (i := 656) (by decide +kernel)) rfl⟩
theorem fX8_20 : jFL RX8 20 8 3 := ⟨_, rfl, by decide, jTB_mem (List.mem_of_getElem? (i := 657) (by decide +kernel)) rfl⟩
theorem fX8_23 : jFL RX8 23 8 4 := ⟨_, rfl, by decide, jTB_mem (List.mem_of_getElem? (i := 658) (by decide +kernel)) rfl⟩
theorem fX8_60 : jFL RX8 60 8 5 := ⟨_, rfl, by decide, jTB_mem (List.mem_of_getElem? (i := 659) (by decide +kernel)) rfl⟩
theorem fX8_26 : jFL RX8 26 8 6 := ⟨_, rfl, by decide, jTB_mem (List.mem_of_getElem? (i := 660) (by decide +kernel)) rfl⟩
theorem fX8_29 : jFL RX8 29 8 7 := ⟨_, rfl, by decide, jTB_mem (List.mem_of_getElem? (i := 661) (by decide +kernel)) rfl⟩
theorem fX8_32 : jFL RX8 32 8 8 := ⟨_, rfl, by decide, jTB_mem (List.mem_of_getElem? (i := 662) (by decide +kernel)) rfl⟩
theorem fX8_35 : jFL RX8 35 8 9 := ⟨_, rfl, by decide, jTB_mem (List.mem_of_getElem? (i := 663) (by decide +kernel)) rfl⟩
theorem fX8_90 : jFL RX8 90 8 10 := ⟨_, rfl, by decide, jTB_mem (List.mem_of_getElem? (i := 664) (by decide +kernel)) rfl⟩
theorem fX8_38 : jFL RX8 38 8 11 := ⟨_, rfl, by decide, jTB_mem (List.mem_of_getElem? (i := 665) (by decide +kernel)) rfl⟩
theorem fX8_41 : jFL RX8 41 8 12 := ⟨_, rfl, by decide, jTB_mem (List.mem_of_getElem? (i := 666) (by decide +kernel)) rfl⟩
theorem fX8_44 : jFL RX8 44 8 13 := ⟨_, rfl, by decide, jTB_mem (List.mem_of_getElem? (i := 667) (by decide +kernel)) rfl⟩
theorem fX8_136 : jFL RX8 136 8 14 := ⟨_, rfl, by decide, jTB_mem (List.mem_of_getElem? (i := 668) (by decide +kernel)) rfl⟩
theorem fX8_48 : jFL RX8 48 8 15 := ⟨_, rfl, by decide, jTB_mem (List.mem_of_getElem? (i := 669) (by decide +kernel)) rfl⟩
theorem fX8_120 : jFL RX8 120 8 16 := ⟨_, rfl, by decide, jTB_mem (List.mem_of_getElem? (i := 670) (by decide +kernel)) rfl⟩
theorem fX8_51 : jFL RX8 51 8 17 := ⟨_, rfl, by decide, jTB_mem (List.mem_of_getElem? (i := 671) (by decide +kernel)) rfl⟩
theorem fX8_54 : jFL RX8 54 8 18 := ⟨_, rfl, by decide, jTB_mem (List.mem_of_getElem? (i := 672) (by decide +kernel)) rfl⟩
theorem fX8_57 : jFL RX8 57 8 19 := ⟨_, rfl, by decide, jTB_mem (List.mem_of_getElem? (i := 673) (by decide +kernel)) rfl⟩
theorem fX8_142 : jFL RX8 142 8 20 := ⟨_, rfl, by decide, jTB_mem (List.mem_of_getElem? (i := 674) (by decide +kernel)) rfl⟩
theorem mkJ13_bitCount_95d88 : jMk mJ13_bitCount_95d88 1 := ⟨jTB_mem (List.mem_of_getElem? (i := 428) (by decide +kernel)) rfl, jTB_mem (List.mem_of_getElem? (i := 52) (by decide +kernel)) rfl, ⟨by decide +kernel, by decide +kernel⟩, by decide +kernel, by decide⟩
theorem mkJ7_fill_53178 : jMk mJ7_fill_53178 2 := ⟨jTB_mem (List.mem_of_getElem? (i := 70) (by decide +kernel)) rfl, jTB_mem (List.mem_of_getElem? (i := 43) (by decide +kernel)) rfl, ⟨by decide +kernel, by decide +kernel⟩, by decide +kernel, by decide⟩
theorem mkJ9_max_7cf53 : jMk mJ9_max_7cf53 2 := ⟨jTB_mem (List.mem_of_getElem? (i := 531) (by decide +kernel)) rfl, jTB_mem (List.mem_of_getElem? (i := 51) (by decide +kernel)) rfl, ⟨by decide +kernel, by decide +kernel⟩, by decide +kernel, by decide⟩
theorem mkJ9_min_7cf53 : jMk mJ9_min_7cf53 2 := ⟨jTB_mem (List.mem_of_getElem? (i := 340) (by decide +kernel)) rfl, jTB_mem (List.mem_of_getElem? (i := 51) (by decide +kernel)) rfl, ⟨by decide +kernel, by decide +kernel⟩, by decide +kernel, by decide⟩
theorem mkX0_brokenBy : jMk mX0_brokenBy 3 := ⟨jTB_mem (List.mem_of_getElem? (i := 425) (by decide +kernel)) rfl, jTB_mem (List.mem_of_getElem? (i := 44) (by decide +kernel)) rfl, ⟨by decide +kernel, by decide +kernel⟩, by decide +kernel, by decide⟩
theorem mkX0_brokenByMelt : jMk mX0_brokenByMelt 2 := ⟨jTB_mem (List.mem_of_getElem? (i := 461) (by decide +kernel)) rfl, jTB_mem (List.mem_of_getElem? (i := 44) (by decide +kernel)) rfl, ⟨by decide +kernel, by decide +kernel⟩, by decide +kernel, by decide⟩
theorem mkX0_brokenIn : jMk mX0_brokenIn 1 := ⟨jTB_mem (List.mem_of_getElem? (i := 509) (by decide +kernel)) rfl, jTB_mem (List.mem_of_getElem? (i := 44) (by decide +kernel)) rfl, ⟨by decide +kernel, by decide +kernel⟩, by decide +kernel, by decide⟩
theorem mkX0_tie : jMk mX0_tie 3 := ⟨jTB_mem (List.mem_of_getElem? (i := 384) (by decide +kernel)) rfl, jTB_mem (List.mem_of_getElem? (i := 44) (by decide +kernel)) rfl, ⟨by decide +kernel, by decide +kernel⟩, by decide +kernel, by decide⟩
theorem mkX0_untie : jMk mX0_untie 2 := ⟨jTB_mem (List.mem_of_getElem? (i := 388) (by decide +kernel)) rfl, jTB_mem (List.mem_of_getElem? (i := 44) (by decide +kernel)) rfl, ⟨by decide +kernel, by decide +kernel⟩, by decide +kernel, by decide⟩
theorem mkX1_choose : jMk mX1_choose 0 := ⟨jTB_mem (List.mem_of_getElem? (i := 589) (by decide +kernel)) rfl, jTB_mem (List.mem_of_getElem? (i := 49) (by decide +kernel)) rfl, ⟨by decide +kernel, by decide +kernel⟩, by decide +kernel, by decide⟩
theorem mkX1_largestBut : jMk mX1_largestBut 1 := ⟨jTB_mem (List.mem_of_getElem? (i := 593) (by decide +kernel)) rfl, jTB_mem (List.mem_of_getElem? (i := 49) (by decide +kernel)) rfl, ⟨by decide +kernel, by decide +kernel⟩, by decide +kernel, by decide⟩
theorem mkX1_leastSum : jMk mX1_leastSum 0 := ⟨jTB_mem (List.mem_of_getElem? (i := 615) (by decide +kernel)) rfl, jTB_mem (List.mem_of_getElem? (i := 49) (by decide +kernel)) rfl, ⟨by decide +kernel, by decide +kernel⟩, by decide +kernel, by decide⟩
theorem mkX1_match : jMk mX1_match 0 := ⟨jTB_mem (List.mem_of_getElem? (i := 585) (by decide +kernel)) rfl, jTB_mem (List.mem_of_getElem? (i := 49) (by decide +kernel)) rfl, ⟨by decide +kernel, by decide +kernel⟩, by decide +kernel, by decide⟩
theorem mkX1_matchRest : jMk mX1_matchRest 4 := ⟨jTB_mem (List.mem_of_getElem? (i := 604) (by decide +kernel)) rfl, jTB_mem (List.mem_of_getElem? (i := 49) (by decide +kernel)) rfl, ⟨by decide +kernel, by decide +kernel⟩, by decide +kernel, by decide⟩
theorem mkX1_senseFor : jMk mX1_senseFor 1 := ⟨jTB_mem (List.mem_of_getElem? (i := 581) (by decide +kernel)) rfl, jTB_mem (List.mem_of_getElem? (i := 49) (by decide +kernel)) rfl, ⟨by decide +kernel, by decide +kernel⟩, by decide +kernel, by decide⟩
theorem mkX1_take : jMk mX1_take 1 := ⟨jTB_mem (List.mem_of_getElem? (i := 573) (by decide +kernel)) rfl, jTB_mem (List.mem_of_getElem? (i := 49) (by decide +kernel)) rfl, ⟨by decide +kernel, by decide +kernel⟩, by decide +kernel, by decide⟩
theorem mkX2_addFar : jMk mX2_addFar 1 := ⟨jTB_mem (List.mem_of_getElem? (i := 331) (by decide +kernel)) rfl, jTB_mem (List.mem_of_getElem? (i := 45) (by decide +kernel)) rfl, ⟨by decide +kernel, by decide +kernel⟩, by decide +kernel, by decide⟩
theorem mkX2_allLaid : jMk mX2_allLaid 0 := ⟨jTB_mem (List.mem_of_getElem? (i := 417) (by decide +kernel)) rfl, jTB_mem (List.mem_of_getElem? (i := 45) (by decide +kernel)) rfl, ⟨by decide +kernel, by decide +kernel⟩, by decide +kernel, by decide⟩
theorem mkX2_allOpen : jMk mX2_allOpen 0 := ⟨jTB_mem (List.mem_of_getElem? (i := 623) (by decide +kernel)) rfl, jTB_mem (List.mem_of_getElem? (i := 45) (by decide +kernel)) rfl, ⟨by decide +kernel, by decide +kernel⟩, by decide +kernel, by decide⟩
theorem mkX2_around : jMk mX2_around 1 := ⟨jTB_mem (List.mem_of_getElem? (i := 445) (by decide +kernel)) rfl, jTB_mem (List.mem_of_getElem? (i := 45) (by decide +kernel)) rfl, ⟨by decide +kernel, by decide +kernel⟩, by decide +kernel, by decide⟩
theorem mkX2_costOfAll : jMk mX2_costOfAll 0 := ⟨jTB_mem (List.mem_of_getElem? (i := 491) (by decide +kernel)) rfl, jTB_mem (List.mem_of_getElem? (i := 45) (by decide +kernel)) rfl, ⟨by decide +kernel, by decide +kernel⟩, by decide +kernel, by decide⟩
theorem mkX2_howMany : jMk mX2_howMany 0 := ⟨jTB_mem (List.mem_of_getElem? (i := 501) (by decide +kernel)) rfl, jTB_mem (List.mem_of_getElem? (i := 45) (by decide +kernel)) rfl, ⟨by decide +kernel, by decide +kernel⟩, by decide +kernel, by decide⟩
theorem mkX2_isHeap : jMk mX2_isHeap 1 := ⟨jTB_mem (List.mem_of_getElem? (i := 337) (by decide +kernel)) rfl, jTB_mem (List.mem_of_getElem? (i := 45) (by decide +kernel)) rfl, ⟨by decide +kernel, by decide +kernel⟩, by decide +kernel, by decide⟩
theorem mkX2_isOpen : jMk mX2_isOpen 1 := ⟨jTB_mem (List.mem_of_getElem? (i := 371) (by decide +kernel)) rfl, jTB_mem (List.mem_of_getElem? (i := 45) (by decide +kernel)) rfl, ⟨by decide +kernel, by decide +kernel⟩, by decide +kernel, by decide⟩
theorem mkX2_layNew : jMk mX2_layNew 1 := ⟨jTB_mem (List.mem_of_getElem? (i := 319) (by decide +kernel)) rfl, jTB_mem (List.mem_of_getElem? (i := 45) (by decide +kernel)) rfl, ⟨by decide +kernel, by decide +kernel⟩, by decide +kernel, by decide⟩
theorem mkX2_measure : jMk mX2_measure 1 := ⟨jTB_mem (List.mem_of_getElem? (i := 324) (by decide +kernel)) rfl, jTB_mem (List.mem_of_getElem? (i := 45) (by decide +kernel)) rfl, ⟨by decide +kernel, by decide +kernel⟩, by decide +kernel, by decide⟩
theorem mkX2_melt : jMk mX2_melt 2 := ⟨jTB_mem (List.mem_of_getElem? (i := 465) (by decide +kernel)) rfl, jTB_mem (List.mem_of_getElem? (i := 45) (by decide +kernel)) rfl, ⟨by decide +kernel, by decide +kernel⟩, by decide +kernel, by decide⟩
theorem mkX2_open : jMk mX2_open 1 := ⟨jTB_mem (List.mem_of_getElem? (i := 348) (by decide +kernel)) rfl, jTB_mem (List.mem_of_getElem? (i := 45) (by decide +kernel)) rfl, ⟨by decide +kernel, by decide +kernel⟩, by decide +kernel, by decide⟩
theorem mkX2_pile : jMk mX2_pile 1 := ⟨jTB_mem (List.mem_of_getElem? (i := 353) (by decide +kernel)) rfl, jTB_mem (List.mem_of_getElem? (i := 45) (by decide +kernel)) rfl, ⟨by decide +kernel, by decide +kernel⟩, by decide +kernel, by decide⟩
theorem mkX2_putAlone : jMk mX2_putAlone 1 := ⟨jTB_mem (List.mem_of_getElem? (i := 344) (by decide +kernel)) rfl, jTB_mem (List.mem_of_getElem? (i := 45) (by decide +kernel)) rfl, ⟨by decide +kernel, by decide +kernel⟩, by decide +kernel, by decide⟩
theorem mkX2_putInto : jMk mX2_putInto 2 := ⟨jTB_mem (List.mem_of_getElem? (i := 357) (by decide +kernel)) rfl, jTB_mem (List.mem_of_getElem? (i := 45) (by decide +kernel)) rfl, ⟨by decide +kernel, by decide +kernel⟩, by decide +kernel, by decide⟩
theorem mkX3_coreOf : jMk mX3_coreOf 1 := ⟨jTB_mem (List.mem_of_getElem? (i := 565) (by decide +kernel)) rfl, jTB_mem (List.mem_of_getElem? (i := 48) (by decide +kernel)) rfl, ⟨by decide +kernel, by decide +kernel⟩, by decide +kernel, by decide⟩
theorem mkX3_marksOut : jMk mX3_marksOut 2 := ⟨jTB_mem (List.mem_of_getElem? (i := 547) (by decide +kernel)) rfl, jTB_mem (List.mem_of_getElem? (i := 48) (by decide +kernel)) rfl, ⟨by decide +kernel, by decide +kernel⟩, by decide +kernel, by decide⟩
theorem mkX3_nameOf : jMk mX3_nameOf 1 := ⟨jTB_mem (List.mem_of_getElem? (i := 539) (by decide +kernel)) rfl, jTB_mem (List.mem_of_getElem? (i := 48) (by decide +kernel)) rfl, ⟨by decide +kernel, by decide +kernel⟩, by decide +kernel, by decide⟩
theorem mkX3_nameOfOne : jMk mX3_nameOfOne 1 := ⟨jTB_mem (List.mem_of_getElem? (i := 543) (by decide +kernel)) rfl, jTB_mem (List.mem_of_getElem? (i := 48) (by decide +kernel)) rfl, ⟨by decide +kernel, by decide +kernel⟩, by decide +kernel, by decide⟩
theorem mkX3_nameOfThree : jMk mX3_nameOfThree 1 := ⟨jTB_mem (List.mem_of_getElem? (i := 557) (by decide +kernel)) rfl, jTB_mem (List.mem_of_getElem? (i := 48) (by decide +kernel)) rfl, ⟨by decide +kernel, by decide +kernel⟩, by decide +kernel, by decide⟩
theorem mkX3_nameOfTwo : jMk mX3_nameOfTwo 1 := ⟨jTB_mem (List.mem_of_getElem? (i := 553) (by decide +kernel)) rfl, jTB_mem (List.mem_of_getElem? (i := 48) (by decide +kernel)) rfl, ⟨by decide +kernel, by decide +kernel⟩, by decide +kernel, by decide⟩
theorem mkX4_layRest : jMk mX4_layRest 3 := ⟨jTB_mem (List.mem_of_getElem? (i := 525) (by decide +kernel)) rfl, jTB_mem (List.mem_of_getElem? (i := 47) (by decide +kernel)) rfl, ⟨by decide +kernel, by decide +kernel⟩, by decide +kernel, by decide⟩
theorem mkX4_leastCost : jMk mX4_leastCost 1 := ⟨jTB_mem (List.mem_of_getElem? (i := 520) (by decide +kernel)) rfl, jTB_mem (List.mem_of_getElem? (i := 47) (by decide +kernel)) rfl, ⟨by decide +kernel, by decide +kernel⟩, by decide +kernel, by decide⟩
theorem mkX5_betters : jMk mX5_betters 2 := ⟨jTB_mem (List.mem_of_getElem? (i := 449) (by decide +kernel)) rfl, jTB_mem (List.mem_of_getElem? (i := 46) (by decide +kernel)) rfl, ⟨by decide +kernel, by decide +kernel⟩, by decide +kernel, by decide⟩
theorem mkX5_layFirst : jMk mX5_layFirst 0 := ⟨jTB_mem (List.mem_of_getElem? (i := 408) (by decide +kernel)) rfl, jTB_mem (List.mem_of_getElem? (i := 46) (by decide +kernel)) rfl, ⟨by decide +kernel, by decide +kernel⟩, by decide +kernel, by decide⟩
theorem mkX5_layOpen : jMk mX5_layOpen 1 := ⟨jTB_mem (List.mem_of_getElem? (i := 413) (by decide +kernel)) rfl, jTB_mem (List.mem_of_getElem? (i := 46) (by decide +kernel)) rfl, ⟨by decide +kernel, by decide +kernel⟩, by decide +kernel, by decide⟩
theorem mkX5_makeSteps : jMk mX5_makeSteps 1 := ⟨jTB_mem (List.mem_of_getElem? (i := 404) (by decide +kernel)) rfl, jTB_mem (List.mem_of_getElem? (i := 46) (by decide +kernel)) rfl, ⟨by decide +kernel, by decide +kernel⟩, by decide +kernel, by decide⟩
theorem mkX5_meltFirst : jMk mX5_meltFirst 0 := ⟨jTB_mem (List.mem_of_getElem? (i := 453) (by decide +kernel)) rfl, jTB_mem (List.mem_of_getElem? (i := 46) (by decide +kernel)) rfl, ⟨by decide +kernel, by decide +kernel⟩, by decide +kernel, by decide⟩
theorem mkX5_meltInto : jMk mX5_meltInto 1 := ⟨jTB_mem (List.mem_of_getElem? (i := 457) (by decide +kernel)) rfl, jTB_mem (List.mem_of_getElem? (i := 46) (by decide +kernel)) rfl, ⟨by decide +kernel, by decide +kernel⟩, by decide +kernel, by decide⟩
theorem mkX5_moveFirst : jMk mX5_moveFirst 0 := ⟨jTB_mem (List.mem_of_getElem? (i := 437) (by decide +kernel)) rfl, jTB_mem (List.mem_of_getElem? (i := 46) (by decide +kernel)) rfl, ⟨by decide +kernel, by decide +kernel⟩, by decide +kernel, by decide⟩
theorem mkX5_moveUse : jMk mX5_moveUse 1 := ⟨jTB_mem (List.mem_of_getElem? (i := 441) (by decide +kernel)) rfl, jTB_mem (List.mem_of_getElem? (i := 46) (by decide +kernel)) rfl, ⟨by decide +kernel, by decide +kernel⟩, by decide +kernel, by decide⟩
theorem mkX6_all : jMk mX6_all 0 := ⟨jTB_mem (List.mem_of_getElem? (i := 627) (by decide +kernel)) rfl, jTB_mem (List.mem_of_getElem? (i := 42) (by decide +kernel)) rfl, ⟨by decide +kernel, by decide +kernel⟩, by decide +kernel, by decide⟩
theorem mkX6_apart : jMk mX6_apart 2 := ⟨jTB_mem (List.mem_of_getElem? (i := 315) (by decide +kernel)) rfl, jTB_mem (List.mem_of_getElem? (i := 42) (by decide +kernel)) rfl, ⟨by decide +kernel, by decide +kernel⟩, by decide +kernel, by decide⟩
theorem mkX6_between : jMk mX6_between 2 := ⟨jTB_mem (List.mem_of_getElem? (i := 287) (by decide +kernel)) rfl, jTB_mem (List.mem_of_getElem? (i := 42) (by decide +kernel)) rfl, ⟨by decide +kernel, by decide +kernel⟩, by decide +kernel, by decide⟩
theorem mkX6_earliestYear : jMk mX6_earliestYear 1 := ⟨jTB_mem (List.mem_of_getElem? (i := 641) (by decide +kernel)) rfl, jTB_mem (List.mem_of_getElem? (i := 42) (by decide +kernel)) rfl, ⟨by decide +kernel, by decide +kernel⟩, by decide +kernel, by decide⟩
theorem mkX6_has : jMk mX6_has 1 := ⟨jTB_mem (List.mem_of_getElem? (i := 365) (by decide +kernel)) rfl, jTB_mem (List.mem_of_getElem? (i := 42) (by decide +kernel)) rfl, ⟨by decide +kernel, by decide +kernel⟩, by decide +kernel, by decide⟩
theorem mkX6_ofYears : jMk mX6_ofYears 3 := ⟨jTB_mem (List.mem_of_getElem? (i := 632) (by decide +kernel)) rfl, jTB_mem (List.mem_of_getElem? (i := 42) (by decide +kernel)) rfl, ⟨by decide +kernel, by decide +kernel⟩, by decide +kernel, by decide⟩
theorem mkX6_setBetween : jMk mX6_setBetween 3 := ⟨jTB_mem (List.mem_of_getElem? (i := 291) (by decide +kernel)) rfl, jTB_mem (List.mem_of_getElem? (i := 42) (by decide +kernel)) rfl, ⟨by decide +kernel, by decide +kernel⟩, by decide +kernel, by decide⟩
theorem mkX6_take : jMk mX6_take 2 := ⟨jTB_mem (List.mem_of_getElem? (i := 308) (by decide +kernel)) rfl, jTB_mem (List.mem_of_getElem? (i := 42) (by decide +kernel)) rfl, ⟨by decide +kernel, by decide +kernel⟩, by decide +kernel, by decide⟩
theorem mkX6_toGroup : jMk mX6_toGroup 2 := ⟨jTB_mem (List.mem_of_getElem? (i := 496) (by decide +kernel)) rfl, jTB_mem (List.mem_of_getElem? (i := 42) (by decide +kernel)) rfl, ⟨by decide +kernel, by decide +kernel⟩, by decide +kernel, by decide⟩
theorem mkX6_weigh : jMk mX6_weigh 2 := ⟨jTB_mem (List.mem_of_getElem? (i := 283) (by decide +kernel)) rfl, jTB_mem (List.mem_of_getElem? (i := 42) (by decide +kernel)) rfl, ⟨by decide +kernel, by decide +kernel⟩, by decide +kernel, by decide⟩
theorem mkX7_best : jMk mX7_best 0 := ⟨jTB_mem (List.mem_of_getElem? (i := 516) (by decide +kernel)) rfl, jTB_mem (List.mem_of_getElem? (i := 41) (by decide +kernel)) rfl, ⟨by decide +kernel, by decide +kernel⟩, by decide +kernel, by decide⟩
theorem mkX7_bit : jMk mX7_bit 1 := ⟨jTB_mem (List.mem_of_getElem? (i := 311) (by decide +kernel)) rfl, jTB_mem (List.mem_of_getElem? (i := 41) (by decide +kernel)) rfl, ⟨by decide +kernel, by decide +kernel⟩, by decide +kernel, by decide⟩
theorem mkX7_bond : jMk mX7_bond 3 := ⟨jTB_mem (List.mem_of_getElem? (i := 376) (by decide +kernel)) rfl, jTB_mem (List.mem_of_getElem? (i := 41) (by decide +kernel)) rfl, ⟨by decide +kernel, by decide +kernel⟩, by decide +kernel, by decide⟩
theorem mkX7_broken : jMk mX7_broken 0 := ⟨jTB_mem (List.mem_of_getElem? (i := 505) (by decide +kernel)) rfl, jTB_mem (List.mem_of_getElem? (i := 41) (by decide +kernel)) rfl, ⟨by decide +kernel, by decide +kernel⟩, by decide +kernel, by decide⟩
theorem mkX7_core : jMk mX7_core 1 := ⟨jTB_mem (List.mem_of_getElem? (i := 561) (by decide +kernel)) rfl, jTB_mem (List.mem_of_getElem? (i := 41) (by decide +kernel)) rfl, ⟨by decide +kernel, by decide +kernel⟩, by decide +kernel, by decide⟩
theorem mkX7_cost : jMk mX7_cost 0 := ⟨jTB_mem (List.mem_of_getElem? (i := 487) (by decide +kernel)) rfl, jTB_mem (List.mem_of_getElem? (i := 41) (by decide +kernel)) rfl, ⟨by decide +kernel, by decide +kernel⟩, by decide +kernel, by decide⟩
theorem mkX7_count : jMk mX7_count 1 := ⟨jTB_mem (List.mem_of_getElem? (i := 646) (by decide +kernel)) rfl, jTB_mem (List.mem_of_getElem? (i := 41) (by decide +kernel)) rfl, ⟨by decide +kernel, by decide +kernel⟩, by decide +kernel, by decide⟩
theorem mkX7_far : jMk mX7_far 2 := ⟨jTB_mem (List.mem_of_getElem? (i := 482) (by decide +kernel)) rfl, jTB_mem (List.mem_of_getElem? (i := 41) (by decide +kernel)) rfl, ⟨by decide +kernel, by decide +kernel⟩, by decide +kernel, by decide⟩
theorem mkX7_first : jMk mX7_first 1 := ⟨jTB_mem (List.mem_of_getElem? (i := 637) (by decide +kernel)) rfl, jTB_mem (List.mem_of_getElem? (i := 41) (by decide +kernel)) rfl, ⟨by decide +kernel, by decide +kernel⟩, by decide +kernel, by decide⟩
theorem mkX7_fix : jMk mX7_fix 2 := ⟨jTB_mem (List.mem_of_getElem? (i := 361) (by decide +kernel)) rfl, jTB_mem (List.mem_of_getElem? (i := 41) (by decide +kernel)) rfl, ⟨by decide +kernel, by decide +kernel⟩, by decide +kernel, by decide⟩
theorem mkX7_free : jMk mX7_free 2 := ⟨jTB_mem (List.mem_of_getElem? (i := 395) (by decide +kernel)) rfl, jTB_mem (List.mem_of_getElem? (i := 41) (by decide +kernel)) rfl, ⟨by decide +kernel, by decide +kernel⟩, by decide +kernel, by decide⟩
theorem mkX7_heap : jMk mX7_heap 1 := ⟨jTB_mem (List.mem_of_getElem? (i := 469) (by decide +kernel)) rfl, jTB_mem (List.mem_of_getElem? (i := 41) (by decide +kernel)) rfl, ⟨by decide +kernel, by decide +kernel⟩, by decide +kernel, by decide⟩
theorem mkX7_holds : jMk mX7_holds 2 := ⟨jTB_mem (List.mem_of_getElem? (i := 327) (by decide +kernel)) rfl, jTB_mem (List.mem_of_getElem? (i := 41) (by decide +kernel)) rfl, ⟨by decide +kernel, by decide +kernel⟩, by decide +kernel, by decide⟩
theorem mkX7_isPair : jMk mX7_isPair 2 := ⟨jTB_mem (List.mem_of_getElem? (i := 380) (by decide +kernel)) rfl, jTB_mem (List.mem_of_getElem? (i := 41) (by decide +kernel)) rfl, ⟨by decide +kernel, by decide +kernel⟩, by decide +kernel, by decide⟩
theorem mkX7_marks : jMk mX7_marks 2 := ⟨jTB_mem (List.mem_of_getElem? (i := 299) (by decide +kernel)) rfl, jTB_mem (List.mem_of_getElem? (i := 41) (by decide +kernel)) rfl, ⟨by decide +kernel, by decide +kernel⟩, by decide +kernel, by decide⟩
theorem mkX7_matched : jMk mX7_matched 1 := ⟨jTB_mem (List.mem_of_getElem? (i := 577) (by decide +kernel)) rfl, jTB_mem (List.mem_of_getElem? (i := 41) (by decide +kernel)) rfl, ⟨by decide +kernel, by decide +kernel⟩, by decide +kernel, by decide⟩
theorem mkX7_membersOf : jMk mX7_membersOf 1 := ⟨jTB_mem (List.mem_of_getElem? (i := 477) (by decide +kernel)) rfl, jTB_mem (List.mem_of_getElem? (i := 41) (by decide +kernel)) rfl, ⟨by decide +kernel, by decide +kernel⟩, by decide +kernel, by decide⟩
theorem mkX7_name : jMk mX7_name 1 := ⟨jTB_mem (List.mem_of_getElem? (i := 535) (by decide +kernel)) rfl, jTB_mem (List.mem_of_getElem? (i := 41) (by decide +kernel)) rfl, ⟨by decide +kernel, by decide +kernel⟩, by decide +kernel, by decide⟩
theorem mkX7_prices : jMk mX7_prices 2 := ⟨jTB_mem (List.mem_of_getElem? (i := 295) (by decide +kernel)) rfl, jTB_mem (List.mem_of_getElem? (i := 41) (by decide +kernel)) rfl, ⟨by decide +kernel, by decide +kernel⟩, by decide +kernel, by decide⟩
theorem mkX7_sense : jMk mX7_sense 1 := ⟨jTB_mem (List.mem_of_getElem? (i := 569) (by decide +kernel)) rfl, jTB_mem (List.mem_of_getElem? (i := 41) (by decide +kernel)) rfl, ⟨by decide +kernel, by decide +kernel⟩, by decide +kernel, by decide⟩
theorem mkX7_settle : jMk mX7_settle 1 := ⟨jTB_mem (List.mem_of_getElem? (i := 400) (by decide +kernel)) rfl, jTB_mem (List.mem_of_getElem? (i := 41) (by decide +kernel)) rfl, ⟨by decide +kernel, by decide +kernel⟩, by decide +kernel, by decide⟩
theorem mkX7_share : jMk mX7_share 4 := ⟨jTB_mem (List.mem_of_getElem? (i := 619) (by decide +kernel)) rfl, jTB_mem (List.mem_of_getElem? (i := 41) (by decide +kernel)) rfl, ⟨by decide +kernel, by decide +kernel⟩, by decide +kernel, by decide⟩
theorem mkX7_size : jMk mX7_size 1 := ⟨jTB_mem (List.mem_of_getElem? (i := 473) (by decide +kernel)) rfl, jTB_mem (List.mem_of_getElem? (i := 41) (by decide +kernel)) rfl, ⟨by decide +kernel, by decide +kernel⟩, by decide +kernel, by decide⟩
theorem mkX7_sum : jMk mX7_sum 0 := ⟨jTB_mem (List.mem_of_getElem? (i := 611) (by decide +kernel)) rfl, jTB_mem (List.mem_of_getElem? (i := 41) (by decide +kernel)) rfl, ⟨by decide +kernel, by decide +kernel⟩, by decide +kernel, by decide⟩
theorem mkX7_use : jMk mX7_use 2 := ⟨jTB_mem (List.mem_of_getElem? (i := 303) (by decide +kernel)) rfl, jTB_mem (List.mem_of_getElem? (i := 41) (by decide +kernel)) rfl, ⟨by decide +kernel, by decide +kernel⟩, by decide +kernel, by decide⟩
theorem mkX7_weight : jMk mX7_weight 2 := ⟨jTB_mem (List.mem_of_getElem? (i := 276) (by decide +kernel)) rfl, jTB_mem (List.mem_of_getElem? (i := 41) (by decide +kernel)) rfl, ⟨by decide +kernel, by decide +kernel⟩, by decide +kernel, by decide⟩
theorem mkX7_within : jMk mX7_within 3 := ⟨jTB_mem (List.mem_of_getElem? (i := 279) (by decide +kernel)) rfl, jTB_mem (List.mem_of_getElem? (i := 41) (by decide +kernel)) rfl, ⟨by decide +kernel, by decide +kernel⟩, by decide +kernel, by decide⟩
theorem mkX8_apart : jMk mX8_apart 2 := ⟨jTB_mem (List.mem_of_getElem? (i := 733) (by decide +kernel)) rfl, jTB_mem (List.mem_of_getElem? (i := 50) (by decide +kernel)) rfl, ⟨by decide +kernel, by decide +kernel⟩, by decide +kernel, by decide⟩
theorem mkX8_beside : jMk mX8_beside 2 := ⟨jTB_mem (List.mem_of_getElem? (i := 750) (by decide +kernel)) rfl, jTB_mem (List.mem_of_getElem? (i := 50) (by decide +kernel)) rfl, ⟨by decide +kernel, by decide +kernel⟩, by decide +kernel, by decide⟩
theorem mkX8_best : jMk mX8_best 0 := ⟨jTB_mem (List.mem_of_getElem? (i := 835) (by decide +kernel)) rfl, jTB_mem (List.mem_of_getElem? (i := 50) (by decide +kernel)) rfl, ⟨by decide +kernel, by decide +kernel⟩, by decide +kernel, by decide⟩
theorem mkX8_bond : jMk mX8_bond 3 := ⟨jTB_mem (List.mem_of_getElem? (i := 770) (by decide +kernel)) rfl, jTB_mem (List.mem_of_getElem? (i := 50) (by decide +kernel)) rfl, ⟨by decide +kernel, by decide +kernel⟩, by decide +kernel, by decide⟩
theorem mkX8_bondOf : jMk mX8_bondOf 2 := ⟨jTB_mem (List.mem_of_getElem? (i := 774) (by decide +kernel)) rfl, jTB_mem (List.mem_of_getElem? (i := 50) (by decide +kernel)) rfl, ⟨by decide +kernel, by decide +kernel⟩, by decide +kernel, by decide⟩
theorem mkX8_breaks : jMk mX8_breaks 2 := ⟨jTB_mem (List.mem_of_getElem? (i := 802) (by decide +kernel)) rfl, jTB_mem (List.mem_of_getElem? (i := 50) (by decide +kernel)) rfl, ⟨by decide +kernel, by decide +kernel⟩, by decide +kernel, by decide⟩
theorem mkX8_broken : jMk mX8_broken 0 := ⟨jTB_mem (List.mem_of_getElem? (i := 782) (by decide +kernel)) rfl, jTB_mem (List.mem_of_getElem? (i := 50) (by decide +kernel)) rfl, ⟨by decide +kernel, by decide +kernel⟩, by decide +kernel, by decide⟩
theorem mkX8_core : jMk mX8_core 1 := ⟨jTB_mem (List.mem_of_getElem? (i := 855) (by decide +kernel)) rfl, jTB_mem (List.mem_of_getElem? (i := 50) (by decide +kernel)) rfl, ⟨by decide +kernel, by decide +kernel⟩, by decide +kernel, by decide⟩
theorem mkX8_cost : jMk mX8_cost 0 := ⟨jTB_mem (List.mem_of_getElem? (i := 831) (by decide +kernel)) rfl, jTB_mem (List.mem_of_getElem? (i := 50) (by decide +kernel)) rfl, ⟨by decide +kernel, by decide +kernel⟩, by decide +kernel, by decide⟩
theorem mkX8_count : jMk mX8_count 1 := ⟨jTB_mem (List.mem_of_getElem? (i := 892) (by decide +kernel)) rfl, jTB_mem (List.mem_of_getElem? (i := 50) (by decide +kernel)) rfl, ⟨by decide +kernel, by decide +kernel⟩, by decide +kernel, by decide⟩
theorem mkX8_far : jMk mX8_far 2 := ⟨jTB_mem (List.mem_of_getElem? (i := 827) (by decide +kernel)) rfl, jTB_mem (List.mem_of_getElem? (i := 50) (by decide +kernel)) rfl, ⟨by decide +kernel, by decide +kernel⟩, by decide +kernel, by decide⟩
theorem mkX8_first : jMk mX8_first 1 := ⟨jTB_mem (List.mem_of_getElem? (i := 888) (by decide +kernel)) rfl, jTB_mem (List.mem_of_getElem? (i := 50) (by decide +kernel)) rfl, ⟨by decide +kernel, by decide +kernel⟩, by decide +kernel, by decide⟩
theorem mkX8_fix : jMk mX8_fix 2 := ⟨jTB_mem (List.mem_of_getElem? (i := 754) (by decide +kernel)) rfl, jTB_mem (List.mem_of_getElem? (i := 50) (by decide +kernel)) rfl, ⟨by decide +kernel, by decide +kernel⟩, by decide +kernel, by decide⟩
theorem mkX8_free : jMk mX8_free 2 := ⟨jTB_mem (List.mem_of_getElem? (i := 778) (by decide +kernel)) rfl, jTB_mem (List.mem_of_getElem? (i := 50) (by decide +kernel)) rfl, ⟨by decide +kernel, by decide +kernel⟩, by decide +kernel, by decide⟩
theorem mkX8_goes : jMk mX8_goes 2 := ⟨jTB_mem (List.mem_of_getElem? (i := 766) (by decide +kernel)) rfl, jTB_mem (List.mem_of_getElem? (i := 50) (by decide +kernel)) rfl, ⟨by decide +kernel, by decide +kernel⟩, by decide +kernel, by decide⟩
theorem mkX8_goesOn : jMk mX8_goesOn 0 := ⟨jTB_mem (List.mem_of_getElem? (i := 794) (by decide +kernel)) rfl, jTB_mem (List.mem_of_getElem? (i := 50) (by decide +kernel)) rfl, ⟨by decide +kernel, by decide +kernel⟩, by decide +kernel, by decide⟩
theorem mkX8_heap : jMk mX8_heap 1 := ⟨jTB_mem (List.mem_of_getElem? (i := 822) (by decide +kernel)) rfl, jTB_mem (List.mem_of_getElem? (i := 50) (by decide +kernel)) rfl, ⟨by decide +kernel, by decide +kernel⟩, by decide +kernel, by decide⟩
theorem mkX8_in : jMk mX8_in 3 := ⟨jTB_mem (List.mem_of_getElem? (i := 725) (by decide +kernel)) rfl, jTB_mem (List.mem_of_getElem? (i := 50) (by decide +kernel)) rfl, ⟨by decide +kernel, by decide +kernel⟩, by decide +kernel, by decide⟩
theorem mkX8_isBroken : jMk mX8_isBroken 3 := ⟨jTB_mem (List.mem_of_getElem? (i := 786) (by decide +kernel)) rfl, jTB_mem (List.mem_of_getElem? (i := 50) (by decide +kernel)) rfl, ⟨by decide +kernel, by decide +kernel⟩, by decide +kernel, by decide⟩
theorem mkX8_isGreat : jMk mX8_isGreat 1 := ⟨jTB_mem (List.mem_of_getElem? (i := 871) (by decide +kernel)) rfl, jTB_mem (List.mem_of_getElem? (i := 50) (by decide +kernel)) rfl, ⟨by decide +kernel, by decide +kernel⟩, by decide +kernel, by decide⟩
theorem mkX8_isHeap : jMk mX8_isHeap 1 := ⟨jTB_mem (List.mem_of_getElem? (i := 814) (by decide +kernel)) rfl, jTB_mem (List.mem_of_getElem? (i := 50) (by decide +kernel)) rfl, ⟨by decide +kernel, by decide +kernel⟩, by decide +kernel, by decide⟩
theorem mkX8_isName : jMk mX8_isName 2 := ⟨jTB_mem (List.mem_of_getElem? (i := 851) (by decide +kernel)) rfl, jTB_mem (List.mem_of_getElem? (i := 50) (by decide +kernel)) rfl, ⟨by decide +kernel, by decide +kernel⟩, by decide +kernel, by decide⟩
theorem mkX8_isUse : jMk mX8_isUse 1 := ⟨jTB_mem (List.mem_of_getElem? (i := 758) (by decide +kernel)) rfl, jTB_mem (List.mem_of_getElem? (i := 50) (by decide +kernel)) rfl, ⟨by decide +kernel, by decide +kernel⟩, by decide +kernel, by decide⟩
theorem mkX8_lays : jMk mX8_lays 1 := ⟨jTB_mem (List.mem_of_getElem? (i := 798) (by decide +kernel)) rfl, jTB_mem (List.mem_of_getElem? (i := 50) (by decide +kernel)) rfl, ⟨by decide +kernel, by decide +kernel⟩, by decide +kernel, by decide⟩
theorem mkX8_leaves : jMk mX8_leaves 1 := ⟨jTB_mem (List.mem_of_getElem? (i := 762) (by decide +kernel)) rfl, jTB_mem (List.mem_of_getElem? (i := 50) (by decide +kernel)) rfl, ⟨by decide +kernel, by decide +kernel⟩, by decide +kernel, by decide⟩
theorem mkX8_marks : jMk mX8_marks 2 := ⟨jTB_mem (List.mem_of_getElem? (i := 741) (by decide +kernel)) rfl, jTB_mem (List.mem_of_getElem? (i := 50) (by decide +kernel)) rfl, ⟨by decide +kernel, by decide +kernel⟩, by decide +kernel, by decide⟩
theorem mkX8_matched : jMk mX8_matched 1 := ⟨jTB_mem (List.mem_of_getElem? (i := 863) (by decide +kernel)) rfl, jTB_mem (List.mem_of_getElem? (i := 50) (by decide +kernel)) rfl, ⟨by decide +kernel, by decide +kernel⟩, by decide +kernel, by decide⟩
theorem mkX8_matches : jMk mX8_matches 0 := ⟨jTB_mem (List.mem_of_getElem? (i := 867) (by decide +kernel)) rfl, jTB_mem (List.mem_of_getElem? (i := 50) (by decide +kernel)) rfl, ⟨by decide +kernel, by decide +kernel⟩, by decide +kernel, by decide⟩
theorem mkX8_melts : jMk mX8_melts 2 := ⟨jTB_mem (List.mem_of_getElem? (i := 818) (by decide +kernel)) rfl, jTB_mem (List.mem_of_getElem? (i := 50) (by decide +kernel)) rfl, ⟨by decide +kernel, by decide +kernel⟩, by decide +kernel, by decide⟩
theorem mkX8_moves : jMk mX8_moves 1 := ⟨jTB_mem (List.mem_of_getElem? (i := 806) (by decide +kernel)) rfl, jTB_mem (List.mem_of_getElem? (i := 50) (by decide +kernel)) rfl, ⟨by decide +kernel, by decide +kernel⟩, by decide +kernel, by decide⟩
theorem mkX8_name : jMk mX8_name 1 := ⟨jTB_mem (List.mem_of_getElem? (i := 847) (by decide +kernel)) rfl, jTB_mem (List.mem_of_getElem? (i := 50) (by decide +kernel)) rfl, ⟨by decide +kernel, by decide +kernel⟩, by decide +kernel, by decide⟩
theorem mkX8_nexts : jMk mX8_nexts 0 := ⟨jTB_mem (List.mem_of_getElem? (i := 843) (by decide +kernel)) rfl, jTB_mem (List.mem_of_getElem? (i := 50) (by decide +kernel)) rfl, ⟨by decide +kernel, by decide +kernel⟩, by decide +kernel, by decide⟩
theorem mkX8_parted : jMk mX8_parted 0 := ⟨jTB_mem (List.mem_of_getElem? (i := 839) (by decide +kernel)) rfl, jTB_mem (List.mem_of_getElem? (i := 50) (by decide +kernel)) rfl, ⟨by decide +kernel, by decide +kernel⟩, by decide +kernel, by decide⟩
theorem mkX8_prices : jMk mX8_prices 2 := ⟨jTB_mem (List.mem_of_getElem? (i := 737) (by decide +kernel)) rfl, jTB_mem (List.mem_of_getElem? (i := 50) (by decide +kernel)) rfl, ⟨by decide +kernel, by decide +kernel⟩, by decide +kernel, by decide⟩
theorem mkX8_reckons : jMk mX8_reckons 0 := ⟨jTB_mem (List.mem_of_getElem? (i := 729) (by decide +kernel)) rfl, jTB_mem (List.mem_of_getElem? (i := 50) (by decide +kernel)) rfl, ⟨by decide +kernel, by decide +kernel⟩, by decide +kernel, by decide⟩
theorem mkX8_sense : jMk mX8_sense 1 := ⟨jTB_mem (List.mem_of_getElem? (i := 859) (by decide +kernel)) rfl, jTB_mem (List.mem_of_getElem? (i := 50) (by decide +kernel)) rfl, ⟨by decide +kernel, by decide +kernel⟩, by decide +kernel, by decide⟩
theorem mkX8_settle : jMk mX8_settle 1 := ⟨jTB_mem (List.mem_of_getElem? (i := 790) (by decide +kernel)) rfl, jTB_mem (List.mem_of_getElem? (i := 50) (by decide +kernel)) rfl, ⟨by decide +kernel, by decide +kernel⟩, by decide +kernel, by decide⟩
theorem mkX8_share : jMk mX8_share 4 := ⟨jTB_mem (List.mem_of_getElem? (i := 884) (by decide +kernel)) rfl, jTB_mem (List.mem_of_getElem? (i := 50) (by decide +kernel)) rfl, ⟨by decide +kernel, by decide +kernel⟩, by decide +kernel, by decide⟩
theorem mkX8_size : jMk mX8_size 1 := ⟨jTB_mem (List.mem_of_getElem? (i := 810) (by decide +kernel)) rfl, jTB_mem (List.mem_of_getElem? (i := 50) (by decide +kernel)) rfl, ⟨by decide +kernel, by decide +kernel⟩, by decide +kernel, by decide⟩
theorem mkX8_sum : jMk mX8_sum 0 := ⟨jTB_mem (List.mem_of_getElem? (i := 880) (by decide +kernel)) rfl, jTB_mem (List.mem_of_getElem? (i := 50) (by decide +kernel)) rfl, ⟨by decide +kernel, by decide +kernel⟩, by decide +kernel, by decide⟩
theorem mkX8_sumOf : jMk mX8_sumOf 3 := ⟨jTB_mem (List.mem_of_getElem? (i := 875) (by decide +kernel)) rfl, jTB_mem (List.mem_of_getElem? (i := 50) (by decide +kernel)) rfl, ⟨by decide +kernel, by decide +kernel⟩, by decide +kernel, by decide⟩
theorem mkX8_use : jMk mX8_use 2 := ⟨jTB_mem (List.mem_of_getElem? (i := 745) (by decide +kernel)) rfl, jTB_mem (List.mem_of_getElem? (i := 50) (by decide +kernel)) rfl, ⟨by decide +kernel, by decide +kernel⟩, by decide +kernel, by decide⟩
theorem mkX8_weight : jMk mX8_weight 2 := ⟨jTB_mem (List.mem_of_getElem? (i := 722) (by decide +kernel)) rfl, jTB_mem (List.mem_of_getElem? (i := 50) (by decide +kernel)) rfl, ⟨by decide +kernel, by decide +kernel⟩, by decide +kernel, by decide⟩
theorem kX7_66 : jCS RX7 66 mX7_within 3 := ⟨mkX7_within, jTB_mem (List.mem_of_getElem? (i := 277) (by decide +kernel)) rfl, jTB_mem (List.mem_of_getElem? (i := 278) (by decide +kernel)) rfl⟩
theorem kX7_70 : jCV RX7 70 6 mX6_weigh 2 := ⟨mkX6_weigh, ⟨_, rfl, rfl⟩, jTB_mem (List.mem_of_getElem? (i := 280) (by decide +kernel)) rfl, jTB_mem (List.mem_of_getElem? (i := 281) (by decide +kernel)) rfl, jTB_mem (List.mem_of_getElem? (i := 282) (by decide +kernel)) rfl⟩
theorem kX7_91 : jCV RX7 91 6 mX6_take 2 := ⟨mkX6_take, ⟨_, rfl, rfl⟩, jTB_mem (List.mem_of_getElem? (i := 305) (by decide +kernel)) rfl, jTB_mem (List.mem_of_getElem? (i := 306) (by decide +kernel)) rfl, jTB_mem (List.mem_of_getElem? (i := 307) (by decide +kernel)) rfl⟩
theorem kX7_95 : jCV RX7 95 2 mX2_layNew 1 := ⟨mkX2_layNew, ⟨_, rfl, rfl⟩, jTB_mem (List.mem_of_getElem? (i := 316) (by decide +kernel)) rfl, jTB_mem (List.mem_of_getElem? (i := 317) (by decide +kernel)) rfl, jTB_mem (List.mem_of_getElem? (i := 318) (by decide +kernel)) rfl⟩
theorem kX7_99 : jCV RX7 99 6 mX6_has 1 := ⟨mkX6_has, ⟨_, rfl, rfl⟩, jTB_mem (List.mem_of_getElem? (i := 362) (by decide +kernel)) rfl, jTB_mem (List.mem_of_getElem? (i := 363) (by decide +kernel)) rfl, jTB_mem (List.mem_of_getElem? (i := 364) (by decide +kernel)) rfl⟩
theorem kX7_103 : jCV RX7 103 2 mX2_open 1 := ⟨mkX2_open, ⟨_, rfl, rfl⟩, jTB_mem (List.mem_of_getElem? (i := 366) (by decide +kernel)) rfl, jTB_mem (List.mem_of_getElem? (i := 346) (by decide +kernel)) rfl, jTB_mem (List.mem_of_getElem? (i := 347) (by decide +kernel)) rfl⟩
theorem kX7_106 : jCV RX7 106 2 mX2_putAlone 1 := ⟨mkX2_putAlone, ⟨_, rfl, rfl⟩, jTB_mem (List.mem_of_getElem? (i := 367) (by decide +kernel)) rfl, jTB_mem (List.mem_of_getElem? (i := 342) (by decide +kernel)) rfl, jTB_mem (List.mem_of_getElem? (i := 343) (by decide +kernel)) rfl⟩
theorem kX7_109 : jCV RX7 109 2 mX2_isOpen 1 := ⟨mkX2_isOpen, ⟨_, rfl, rfl⟩, jTB_mem (List.mem_of_getElem? (i := 368) (by decide +kernel)) rfl, jTB_mem (List.mem_of_getElem? (i := 369) (by decide +kernel)) rfl, jTB_mem (List.mem_of_getElem? (i := 370) (by decide +kernel)) rfl⟩
theorem kX7_116 : jCV RX7 116 2 mX2_putInto 2 := ⟨mkX2_putInto, ⟨_, rfl, rfl⟩, jTB_mem (List.mem_of_getElem? (i := 372) (by decide +kernel)) rfl, jTB_mem (List.mem_of_getElem? (i := 355) (by decide +kernel)) rfl, jTB_mem (List.mem_of_getElem? (i := 356) (by decide +kernel)) rfl⟩
theorem kX7_119 : jCV RX7 119 7 mX7_isPair 2 := ⟨mkX7_isPair, ⟨_, rfl, rfl⟩, jTB_mem (List.mem_of_getElem? (i := 377) (by decide +kernel)) rfl, jTB_mem (List.mem_of_getElem? (i := 379) (by decide +kernel)) rfl, jTB_mem (List.mem_of_getElem? (i := 3) (by decide +kernel)) rfl⟩
theorem kX7_123 : jCV RX7 123 0 mX0_tie 3 := ⟨mkX0_tie, ⟨_, rfl, rfl⟩, jTB_mem (List.mem_of_getElem? (i := 381) (by decide +kernel)) rfl, jTB_mem (List.mem_of_getElem? (i := 382) (by decide +kernel)) rfl, jTB_mem (List.mem_of_getElem? (i := 383) (by decide +kernel)) rfl⟩
theorem kX7_127 : jCV RX7 127 0 mX0_untie 2 := ⟨mkX0_untie, ⟨_, rfl, rfl⟩, jTB_mem (List.mem_of_getElem? (i := 396) (by decide +kernel)) rfl, jTB_mem (List.mem_of_getElem? (i := 386) (by decide +kernel)) rfl, jTB_mem (List.mem_of_getElem? (i := 387) (by decide +kernel)) rfl⟩
theorem kX7_130 : jCV RX7 130 5 mX5_makeSteps 1 := ⟨mkX5_makeSteps, ⟨_, rfl, rfl⟩, jTB_mem (List.mem_of_getElem? (i := 401) (by decide +kernel)) rfl, jTB_mem (List.mem_of_getElem? (i := 402) (by decide +kernel)) rfl, jTB_mem (List.mem_of_getElem? (i := 403) (by decide +kernel)) rfl⟩
theorem kX7_134 : jCV RX7 134 7 mX7_membersOf 1 := ⟨mkX7_membersOf, ⟨_, rfl, rfl⟩, jTB_mem (List.mem_of_getElem? (i := 474) (by decide +kernel)) rfl, jTB_mem (List.mem_of_getElem? (i := 476) (by decide +kernel)) rfl, jTB_mem (List.mem_of_getElem? (i := 10) (by decide +kernel)) rfl⟩
theorem kX7_138 : jCS RX7 138 mJ13_bitCount_95d88 1 := ⟨mkJ13_bitCount_95d88, jTB_mem (List.mem_of_getElem? (i := 478) (by decide +kernel)) rfl, jTB_mem (List.mem_of_getElem? (i := 427) (by decide +kernel)) rfl⟩
theorem kX7_144 : jCV RX7 144 6 mX6_between 2 := ⟨mkX6_between, ⟨_, rfl, rfl⟩, jTB_mem (List.mem_of_getElem? (i := 483) (by decide +kernel)) rfl, jTB_mem (List.mem_of_getElem? (i := 285) (by decide +kernel)) rfl, jTB_mem (List.mem_of_getElem? (i := 286) (by decide +kernel)) rfl⟩
theorem kX7_147 : jCV RX7 147 2 mX2_costOfAll 0 := ⟨mkX2_costOfAll, ⟨_, rfl, rfl⟩, jTB_mem (List.mem_of_getElem? (i := 488) (by decide +kernel)) rfl, jTB_mem (List.mem_of_getElem? (i := 489) (by decide +kernel)) rfl, jTB_mem (List.mem_of_getElem? (i := 490) (by decide +kernel)) rfl⟩
theorem kX7_151 : jCV RX7 151 0 mX0_brokenIn 1 := ⟨mkX0_brokenIn, ⟨_, rfl, rfl⟩, jTB_mem (List.mem_of_getElem? (i := 506) (by decide +kernel)) rfl, jTB_mem (List.mem_of_getElem? (i := 507) (by decide +kernel)) rfl, jTB_mem (List.mem_of_getElem? (i := 508) (by decide +kernel)) rfl⟩
theorem kX7_155 : jCV RX7 155 4 mX4_leastCost 1 := ⟨mkX4_leastCost, ⟨_, rfl, rfl⟩, jTB_mem (List.mem_of_getElem? (i := 517) (by decide +kernel)) rfl, jTB_mem (List.mem_of_getElem? (i := 518) (by decide +kernel)) rfl, jTB_mem (List.mem_of_getElem? (i := 519) (by decide +kernel)) rfl⟩
theorem kX7_158 : jCV RX7 158 3 mX3_nameOf 1 := ⟨mkX3_nameOf, ⟨_, rfl, rfl⟩, jTB_mem (List.mem_of_getElem? (i := 536) (by decide +kernel)) rfl, jTB_mem (List.mem_of_getElem? (i := 537) (by decide +kernel)) rfl, jTB_mem (List.mem_of_getElem? (i := 538) (by decide +kernel)) rfl⟩
theorem kX7_161 : jCV RX7 161 3 mX3_coreOf 1 := ⟨mkX3_coreOf, ⟨_, rfl, rfl⟩, jTB_mem (List.mem_of_getElem? (i := 562) (by decide +kernel)) rfl, jTB_mem (List.mem_of_getElem? (i := 563) (by decide +kernel)) rfl, jTB_mem (List.mem_of_getElem? (i := 564) (by decide +kernel)) rfl⟩
theorem kX7_164 : jCV RX7 164 1 mX1_take 1 := ⟨mkX1_take, ⟨_, rfl, rfl⟩, jTB_mem (List.mem_of_getElem? (i := 570) (by decide +kernel)) rfl, jTB_mem (List.mem_of_getElem? (i := 571) (by decide +kernel)) rfl, jTB_mem (List.mem_of_getElem? (i := 572) (by decide +kernel)) rfl⟩
theorem kX7_166 : jCV RX7 166 1 mX1_senseFor 1 := ⟨mkX1_senseFor, ⟨_, rfl, rfl⟩, jTB_mem (List.mem_of_getElem? (i := 578) (by decide +kernel)) rfl, jTB_mem (List.mem_of_getElem? (i := 579) (by decide +kernel)) rfl, jTB_mem (List.mem_of_getElem? (i := 580) (by decide +kernel)) rfl⟩
theorem kX7_169 : jCV RX7 169 1 mX1_leastSum 0 := ⟨mkX1_leastSum, ⟨_, rfl, rfl⟩, jTB_mem (List.mem_of_getElem? (i := 612) (by decide +kernel)) rfl, jTB_mem (List.mem_of_getElem? (i := 613) (by decide +kernel)) rfl, jTB_mem (List.mem_of_getElem? (i := 614) (by decide +kernel)) rfl⟩
theorem kX7_172 : jCV RX7 172 2 mX2_allOpen 0 := ⟨mkX2_allOpen, ⟨_, rfl, rfl⟩, jTB_mem (List.mem_of_getElem? (i := 620) (by decide +kernel)) rfl, jTB_mem (List.mem_of_getElem? (i := 621) (by decide +kernel)) rfl, jTB_mem (List.mem_of_getElem? (i := 622) (by decide +kernel)) rfl⟩
theorem kX7_176 : jCV RX7 176 6 mX6_ofYears 3 := ⟨mkX6_ofYears, ⟨_, rfl, rfl⟩, jTB_mem (List.mem_of_getElem? (i := 629) (by decide +kernel)) rfl, jTB_mem (List.mem_of_getElem? (i := 630) (by decide +kernel)) rfl, jTB_mem (List.mem_of_getElem? (i := 631) (by decide +kernel)) rfl⟩
theorem kX7_180 : jCV RX7 180 6 mX6_earliestYear 1 := ⟨mkX6_earliestYear, ⟨_, rfl, rfl⟩, jTB_mem (List.mem_of_getElem? (i := 638) (by decide +kernel)) rfl, jTB_mem (List.mem_of_getElem? (i := 639) (by decide +kernel)) rfl, jTB_mem (List.mem_of_getElem? (i := 640) (by decide +kernel)) rfl⟩
theorem kX7_183 : jCV RX7 183 2 mX2_howMany 0 := ⟨mkX2_howMany, ⟨_, rfl, rfl⟩, jTB_mem (List.mem_of_getElem? (i := 647) (by decide +kernel)) rfl, jTB_mem (List.mem_of_getElem? (i := 499) (by decide +kernel)) rfl, jTB_mem (List.mem_of_getElem? (i := 500) (by decide +kernel)) rfl⟩
theorem kX0_18 : jCV RX0 18 0 mX0_untie 2 := ⟨mkX0_untie, ⟨_, rfl, rfl⟩, jTB_mem (List.mem_of_getElem? (i := 385) (by decide +kernel)) rfl, jTB_mem (List.mem_of_getElem? (i := 386) (by decide +kernel)) rfl, jTB_mem (List.mem_of_getElem? (i := 387) (by decide +kernel)) rfl⟩
theorem kX0_26 : jCN RX0 26 mX7_bit 1 := ⟨mkX7_bit, ⟨"WordSenses", jNL_mem (List.mem_of_getElem? (i := 390) (by decide +kernel)) rfl⟩, jTB_mem (List.mem_of_getElem? (i := 310) (by decide +kernel)) rfl⟩
theorem kX0_30 : jCN RX0 30 mX7_holds 2 := ⟨mkX7_holds, ⟨"WordSenses", jNL_mem (List.mem_of_getElem? (i := 389) (by decide +kernel)) rfl⟩, jTB_mem (List.mem_of_getElem? (i := 326) (by decide +kernel)) rfl⟩
theorem kX0_36 : jCS RX0 36 mJ13_bitCount_95d88 1 := ⟨mkJ13_bitCount_95d88, jTB_mem (List.mem_of_getElem? (i := 426) (by decide +kernel)) rfl, jTB_mem (List.mem_of_getElem? (i := 427) (by decide +kernel)) rfl⟩
theorem kX0_42 : jCV RX0 42 2 mX2_allLaid 0 := ⟨mkX2_allLaid, ⟨_, rfl, rfl⟩, jTB_mem (List.mem_of_getElem? (i := 510) (by decide +kernel)) rfl, jTB_mem (List.mem_of_getElem? (i := 415) (by decide +kernel)) rfl, jTB_mem (List.mem_of_getElem? (i := 416) (by decide +kernel)) rfl⟩
theorem kX0_48 : jCV RX0 48 2 mX2_around 1 := ⟨mkX2_around, ⟨_, rfl, rfl⟩, jTB_mem (List.mem_of_getElem? (i := 511) (by decide +kernel)) rfl, jTB_mem (List.mem_of_getElem? (i := 443) (by decide +kernel)) rfl, jTB_mem (List.mem_of_getElem? (i := 444) (by decide +kernel)) rfl⟩
theorem kX0_51 : jCV RX0 51 0 mX0_brokenBy 3 := ⟨mkX0_brokenBy, ⟨_, rfl, rfl⟩, jTB_mem (List.mem_of_getElem? (i := 512) (by decide +kernel)) rfl, jTB_mem (List.mem_of_getElem? (i := 423) (by decide +kernel)) rfl, jTB_mem (List.mem_of_getElem? (i := 424) (by decide +kernel)) rfl⟩
theorem kX1_43 : jCV RX1 43 1 mX1_match 0 := ⟨mkX1_match, ⟨_, rfl, rfl⟩, jTB_mem (List.mem_of_getElem? (i := 582) (by decide +kernel)) rfl, jTB_mem (List.mem_of_getElem? (i := 584) (by decide +kernel)) rfl, jTB_mem (List.mem_of_getElem? (i := 16) (by decide +kernel)) rfl⟩
theorem kX1_52 : jCV RX1 52 1 mX1_choose 0 := ⟨mkX1_choose, ⟨_, rfl, rfl⟩, jTB_mem (List.mem_of_getElem? (i := 586) (by decide +kernel)) rfl, jTB_mem (List.mem_of_getElem? (i := 588) (by decide +kernel)) rfl, jTB_mem (List.mem_of_getElem? (i := 17) (by decide +kernel)) rfl⟩
theorem kX1_61 : jCV RX1 61 3 mX3_coreOf 1 := ⟨mkX3_coreOf, ⟨_, rfl, rfl⟩, jTB_mem (List.mem_of_getElem? (i := 597) (by decide +kernel)) rfl, jTB_mem (List.mem_of_getElem? (i := 563) (by decide +kernel)) rfl, jTB_mem (List.mem_of_getElem? (i := 564) (by decide +kernel)) rfl⟩
theorem kX1_67 : jCV RX1 67 6 mX6_apart 2 := ⟨mkX6_apart, ⟨_, rfl, rfl⟩, jTB_mem (List.mem_of_getElem? (i := 598) (by decide +kernel)) rfl, jTB_mem (List.mem_of_getElem? (i := 313) (by decide +kernel)) rfl, jTB_mem (List.mem_of_getElem? (i := 314) (by decide +kernel)) rfl⟩
theorem kX1_74 : jCS RX1 74 mJ9_max_7cf53 2 := ⟨mkJ9_max_7cf53, jTB_mem (List.mem_of_getElem? (i := 600) (by decide +kernel)) rfl, jTB_mem (List.mem_of_getElem? (i := 530) (by decide +kernel)) rfl⟩
theorem kX1_79 : jCV RX1 79 1 mX1_matchRest 4 := ⟨mkX1_matchRest, ⟨_, rfl, rfl⟩, jTB_mem (List.mem_of_getElem? (i := 601) (by decide +kernel)) rfl, jTB_mem (List.mem_of_getElem? (i := 603) (by decide +kernel)) rfl, jTB_mem (List.mem_of_getElem? (i := 19) (by decide +kernel)) rfl⟩
theorem kX1_83 : jCV RX1 83 1 mX1_largestBut 1 := ⟨mkX1_largestBut, ⟨_, rfl, rfl⟩, jTB_mem (List.mem_of_getElem? (i := 590) (by decide +kernel)) rfl, jTB_mem (List.mem_of_getElem? (i := 592) (by decide +kernel)) rfl, jTB_mem (List.mem_of_getElem? (i := 18) (by decide +kernel)) rfl⟩
theorem kX1_86 : jCN RX1 86 mX7_bit 1 := ⟨mkX7_bit, ⟨"WordSenses", jNL_mem (List.mem_of_getElem? (i := 596) (by decide +kernel)) rfl⟩, jTB_mem (List.mem_of_getElem? (i := 310) (by decide +kernel)) rfl⟩
theorem kX1_91 : jCN RX1 91 mX7_holds 2 := ⟨mkX7_holds, ⟨"WordSenses", jNL_mem (List.mem_of_getElem? (i := 595) (by decide +kernel)) rfl⟩, jTB_mem (List.mem_of_getElem? (i := 326) (by decide +kernel)) rfl⟩
theorem kX1_95 : jCS RX1 95 mJ13_bitCount_95d88 1 := ⟨mkJ13_bitCount_95d88, jTB_mem (List.mem_of_getElem? (i := 594) (by decide +kernel)) rfl, jTB_mem (List.mem_of_getElem? (i := 427) (by decide +kernel)) rfl⟩
theorem kX2_33 : jCS RX2 33 mJ7_fill_53178 2 := ⟨mkJ7_fill_53178, jTB_mem (List.mem_of_getElem? (i := 121) (by decide +kernel)) rfl, jTB_mem (List.mem_of_getElem? (i := 69) (by decide +kernel)) rfl⟩
theorem kX2_44 : jCV RX2 44 6 mX6_all 0 := ⟨mkX6_all, ⟨_, rfl, rfl⟩, jTB_mem (List.mem_of_getElem? (i := 624) (by decide +kernel)) rfl, jTB_mem (List.mem_of_getElem? (i := 625) (by decide +kernel)) rfl, jTB_mem (List.mem_of_getElem? (i := 626) (by decide +kernel)) rfl⟩
theorem kX2_48 : jCV RX2 48 2 mX2_allLaid 0 := ⟨mkX2_allLaid, ⟨_, rfl, rfl⟩, jTB_mem (List.mem_of_getElem? (i := 628) (by decide +kernel)) rfl, jTB_mem (List.mem_of_getElem? (i := 415) (by decide +kernel)) rfl, jTB_mem (List.mem_of_getElem? (i := 416) (by decide +kernel)) rfl⟩
theorem kX2_53 : jCV RX2 53 2 mX2_isHeap 1 := ⟨mkX2_isHeap, ⟨_, rfl, rfl⟩, jTB_mem (List.mem_of_getElem? (i := 334) (by decide +kernel)) rfl, jTB_mem (List.mem_of_getElem? (i := 335) (by decide +kernel)) rfl, jTB_mem (List.mem_of_getElem? (i := 336) (by decide +kernel)) rfl⟩
theorem kX2_57 : jCV RX2 57 2 mX2_around 1 := ⟨mkX2_around, ⟨_, rfl, rfl⟩, jTB_mem (List.mem_of_getElem? (i := 492) (by decide +kernel)) rfl, jTB_mem (List.mem_of_getElem? (i := 443) (by decide +kernel)) rfl, jTB_mem (List.mem_of_getElem? (i := 444) (by decide +kernel)) rfl⟩
theorem kX2_61 : jCV RX2 61 6 mX6_toGroup 2 := ⟨mkX6_toGroup, ⟨_, rfl, rfl⟩, jTB_mem (List.mem_of_getElem? (i := 493) (by decide +kernel)) rfl, jTB_mem (List.mem_of_getElem? (i := 494) (by decide +kernel)) rfl, jTB_mem (List.mem_of_getElem? (i := 495) (by decide +kernel)) rfl⟩
theorem kX2_65 : jCV RX2 65 2 mX2_howMany 0 := ⟨mkX2_howMany, ⟨_, rfl, rfl⟩, jTB_mem (List.mem_of_getElem? (i := 498) (by decide +kernel)) rfl, jTB_mem (List.mem_of_getElem? (i := 499) (by decide +kernel)) rfl, jTB_mem (List.mem_of_getElem? (i := 500) (by decide +kernel)) rfl⟩
theorem kX2_69 : jCN RX2 69 mX7_bit 1 := ⟨mkX7_bit, ⟨"WordSenses", jNL_mem (List.mem_of_getElem? (i := 320) (by decide +kernel)) rfl⟩, jTB_mem (List.mem_of_getElem? (i := 310) (by decide +kernel)) rfl⟩
theorem kX2_72 : jCV RX2 72 2 mX2_pile 1 := ⟨mkX2_pile, ⟨_, rfl, rfl⟩, jTB_mem (List.mem_of_getElem? (i := 350) (by decide +kernel)) rfl, jTB_mem (List.mem_of_getElem? (i := 352) (by decide +kernel)) rfl, jTB_mem (List.mem_of_getElem? (i := 2) (by decide +kernel)) rfl⟩
theorem kX2_76 : jCV RX2 76 2 mX2_open 1 := ⟨mkX2_open, ⟨_, rfl, rfl⟩, jTB_mem (List.mem_of_getElem? (i := 345) (by decide +kernel)) rfl, jTB_mem (List.mem_of_getElem? (i := 346) (by decide +kernel)) rfl, jTB_mem (List.mem_of_getElem? (i := 347) (by decide +kernel)) rfl⟩
theorem kX2_80 : jCN RX2 80 mX7_holds 2 := ⟨mkX7_holds, ⟨"WordSenses", jNL_mem (List.mem_of_getElem? (i := 325) (by decide +kernel)) rfl⟩, jTB_mem (List.mem_of_getElem? (i := 326) (by decide +kernel)) rfl⟩
theorem kX2_84 : jCV RX2 84 2 mX2_addFar 1 := ⟨mkX2_addFar, ⟨_, rfl, rfl⟩, jTB_mem (List.mem_of_getElem? (i := 328) (by decide +kernel)) rfl, jTB_mem (List.mem_of_getElem? (i := 330) (by decide +kernel)) rfl, jTB_mem (List.mem_of_getElem? (i := 1) (by decide +kernel)) rfl⟩
theorem kX2_87 : jCV RX2 87 6 mX6_between 2 := ⟨mkX6_between, ⟨_, rfl, rfl⟩, jTB_mem (List.mem_of_getElem? (i := 332) (by decide +kernel)) rfl, jTB_mem (List.mem_of_getElem? (i := 285) (by decide +kernel)) rfl, jTB_mem (List.mem_of_getElem? (i := 286) (by decide +kernel)) rfl⟩
theorem kX2_91 : jCV RX2 91 2 mX2_measure 1 := ⟨mkX2_measure, ⟨_, rfl, rfl⟩, jTB_mem (List.mem_of_getElem? (i := 321) (by decide +kernel)) rfl, jTB_mem (List.mem_of_getElem? (i := 322) (by decide +kernel)) rfl, jTB_mem (List.mem_of_getElem? (i := 323) (by decide +kernel)) rfl⟩
theorem kX2_95 : jCS RX2 95 mJ9_min_7cf53 2 := ⟨mkJ9_min_7cf53, jTB_mem (List.mem_of_getElem? (i := 338) (by decide +kernel)) rfl, jTB_mem (List.mem_of_getElem? (i := 339) (by decide +kernel)) rfl⟩
theorem kX2_100 : jCV RX2 100 2 mX2_putAlone 1 := ⟨mkX2_putAlone, ⟨_, rfl, rfl⟩, jTB_mem (List.mem_of_getElem? (i := 341) (by decide +kernel)) rfl, jTB_mem (List.mem_of_getElem? (i := 342) (by decide +kernel)) rfl, jTB_mem (List.mem_of_getElem? (i := 343) (by decide +kernel)) rfl⟩
theorem kX2_103 : jCV RX2 103 2 mX2_putInto 2 := ⟨mkX2_putInto, ⟨_, rfl, rfl⟩, jTB_mem (List.mem_of_getElem? (i := 354) (by decide +kernel)) rfl, jTB_mem (List.mem_of_getElem? (i := 355) (by decide +kernel)) rfl, jTB_mem (List.mem_of_getElem? (i := 356) (by decide +kernel)) rfl⟩
theorem kX3_22 : jCS RX3 22 mJ13_bitCount_95d88 1 := ⟨mkJ13_bitCount_95d88, jTB_mem (List.mem_of_getElem? (i := 548) (by decide +kernel)) rfl, jTB_mem (List.mem_of_getElem? (i := 427) (by decide +kernel)) rfl⟩
theorem kX3_34 : jCV RX3 34 3 mX3_nameOfOne 1 := ⟨mkX3_nameOfOne, ⟨_, rfl, rfl⟩, jTB_mem (List.mem_of_getElem? (i := 540) (by decide +kernel)) rfl, jTB_mem (List.mem_of_getElem? (i := 542) (by decide +kernel)) rfl, jTB_mem (List.mem_of_getElem? (i := 12) (by decide +kernel)) rfl⟩
theorem kX3_37 : jCV RX3 37 3 mX3_nameOfTwo 1 := ⟨mkX3_nameOfTwo, ⟨_, rfl, rfl⟩, jTB_mem (List.mem_of_getElem? (i := 550) (by decide +kernel)) rfl, jTB_mem (List.mem_of_getElem? (i := 552) (by decide +kernel)) rfl, jTB_mem (List.mem_of_getElem? (i := 14) (by decide +kernel)) rfl⟩
theorem kX3_40 : jCV RX3 40 3 mX3_nameOfThree 1 := ⟨mkX3_nameOfThree, ⟨_, rfl, rfl⟩, jTB_mem (List.mem_of_getElem? (i := 554) (by decide +kernel)) rfl, jTB_mem (List.mem_of_getElem? (i := 556) (by decide +kernel)) rfl, jTB_mem (List.mem_of_getElem? (i := 15) (by decide +kernel)) rfl⟩
theorem kX3_43 : jCV RX3 43 3 mX3_marksOut 2 := ⟨mkX3_marksOut, ⟨_, rfl, rfl⟩, jTB_mem (List.mem_of_getElem? (i := 544) (by decide +kernel)) rfl, jTB_mem (List.mem_of_getElem? (i := 546) (by decide +kernel)) rfl, jTB_mem (List.mem_of_getElem? (i := 13) (by decide +kernel)) rfl⟩
theorem kX4_31 : jCV RX4 31 4 mX4_layRest 3 := ⟨mkX4_layRest, ⟨_, rfl, rfl⟩, jTB_mem (List.mem_of_getElem? (i := 522) (by decide +kernel)) rfl, jTB_mem (List.mem_of_getElem? (i := 524) (by decide +kernel)) rfl, jTB_mem (List.mem_of_getElem? (i := 11) (by decide +kernel)) rfl⟩
theorem kX4_40 : jCN RX4 40 mX7_bit 1 := ⟨mkX7_bit, ⟨"WordSenses", jNL_mem (List.mem_of_getElem? (i := 526) (by decide +kernel)) rfl⟩, jTB_mem (List.mem_of_getElem? (i := 310) (by decide +kernel)) rfl⟩
theorem kX4_44 : jCV RX4 44 0 mX0_brokenBy 3 := ⟨mkX0_brokenBy, ⟨_, rfl, rfl⟩, jTB_mem (List.mem_of_getElem? (i := 527) (by decide +kernel)) rfl, jTB_mem (List.mem_of_getElem? (i := 423) (by decide +kernel)) rfl, jTB_mem (List.mem_of_getElem? (i := 424) (by decide +kernel)) rfl⟩
theorem kX4_50 : jCV RX4 50 6 mX6_toGroup 2 := ⟨mkX6_toGroup, ⟨_, rfl, rfl⟩, jTB_mem (List.mem_of_getElem? (i := 528) (by decide +kernel)) rfl, jTB_mem (List.mem_of_getElem? (i := 494) (by decide +kernel)) rfl, jTB_mem (List.mem_of_getElem? (i := 495) (by decide +kernel)) rfl⟩
theorem kX4_54 : jCS RX4 54 mJ9_max_7cf53 2 := ⟨mkJ9_max_7cf53, jTB_mem (List.mem_of_getElem? (i := 529) (by decide +kernel)) rfl, jTB_mem (List.mem_of_getElem? (i := 530) (by decide +kernel)) rfl⟩
theorem kX5_23 : jCV RX5 23 5 mX5_layFirst 0 := ⟨mkX5_layFirst, ⟨_, rfl, rfl⟩, jTB_mem (List.mem_of_getElem? (i := 405) (by decide +kernel)) rfl, jTB_mem (List.mem_of_getElem? (i := 407) (by decide +kernel)) rfl, jTB_mem (List.mem_of_getElem? (i := 4) (by decide +kernel)) rfl⟩
theorem kX5_27 : jCV RX5 27 5 mX5_moveFirst 0 := ⟨mkX5_moveFirst, ⟨_, rfl, rfl⟩, jTB_mem (List.mem_of_getElem? (i := 434) (by decide +kernel)) rfl, jTB_mem (List.mem_of_getElem? (i := 436) (by decide +kernel)) rfl, jTB_mem (List.mem_of_getElem? (i := 6) (by decide +kernel)) rfl⟩
theorem kX5_30 : jCV RX5 30 5 mX5_meltFirst 0 := ⟨mkX5_meltFirst, ⟨_, rfl, rfl⟩, jTB_mem (List.mem_of_getElem? (i := 450) (by decide +kernel)) rfl, jTB_mem (List.mem_of_getElem? (i := 452) (by decide +kernel)) rfl, jTB_mem (List.mem_of_getElem? (i := 8) (by decide +kernel)) rfl⟩
theorem kX5_42 : jCV RX5 42 2 mX2_isOpen 1 := ⟨mkX2_isOpen, ⟨_, rfl, rfl⟩, jTB_mem (List.mem_of_getElem? (i := 409) (by decide +kernel)) rfl, jTB_mem (List.mem_of_getElem? (i := 369) (by decide +kernel)) rfl, jTB_mem (List.mem_of_getElem? (i := 370) (by decide +kernel)) rfl⟩
theorem kX5_48 : jCV RX5 48 5 mX5_layOpen 1 := ⟨mkX5_layOpen, ⟨_, rfl, rfl⟩, jTB_mem (List.mem_of_getElem? (i := 410) (by decide +kernel)) rfl, jTB_mem (List.mem_of_getElem? (i := 412) (by decide +kernel)) rfl, jTB_mem (List.mem_of_getElem? (i := 5) (by decide +kernel)) rfl⟩
theorem kX5_51 : jCV RX5 51 2 mX2_allLaid 0 := ⟨mkX2_allLaid, ⟨_, rfl, rfl⟩, jTB_mem (List.mem_of_getElem? (i := 414) (by decide +kernel)) rfl, jTB_mem (List.mem_of_getElem? (i := 415) (by decide +kernel)) rfl, jTB_mem (List.mem_of_getElem? (i := 416) (by decide +kernel)) rfl⟩
theorem kX5_55 : jCN RX5 55 mX7_bit 1 := ⟨mkX7_bit, ⟨"WordSenses", jNL_mem (List.mem_of_getElem? (i := 418) (by decide +kernel)) rfl⟩, jTB_mem (List.mem_of_getElem? (i := 310) (by decide +kernel)) rfl⟩
theorem kX5_59 : jCV RX5 59 2 mX2_measure 1 := ⟨mkX2_measure, ⟨_, rfl, rfl⟩, jTB_mem (List.mem_of_getElem? (i := 419) (by decide +kernel)) rfl, jTB_mem (List.mem_of_getElem? (i := 322) (by decide +kernel)) rfl, jTB_mem (List.mem_of_getElem? (i := 323) (by decide +kernel)) rfl⟩
theorem kX5_64 : jCV RX5 64 2 mX2_isHeap 1 := ⟨mkX2_isHeap, ⟨_, rfl, rfl⟩, jTB_mem (List.mem_of_getElem? (i := 421) (by decide +kernel)) rfl, jTB_mem (List.mem_of_getElem? (i := 335) (by decide +kernel)) rfl, jTB_mem (List.mem_of_getElem? (i := 336) (by decide +kernel)) rfl⟩
theorem kX5_75 : jCV RX5 75 0 mX0_brokenBy 3 := ⟨mkX0_brokenBy, ⟨_, rfl, rfl⟩, jTB_mem (List.mem_of_getElem? (i := 422) (by decide +kernel)) rfl, jTB_mem (List.mem_of_getElem? (i := 423) (by decide +kernel)) rfl, jTB_mem (List.mem_of_getElem? (i := 424) (by decide +kernel)) rfl⟩
theorem kX5_84 : jCV RX5 84 2 mX2_putAlone 1 := ⟨mkX2_putAlone, ⟨_, rfl, rfl⟩, jTB_mem (List.mem_of_getElem? (i := 432) (by decide +kernel)) rfl, jTB_mem (List.mem_of_getElem? (i := 342) (by decide +kernel)) rfl, jTB_mem (List.mem_of_getElem? (i := 343) (by decide +kernel)) rfl⟩
theorem kX5_88 : jCV RX5 88 2 mX2_putInto 2 := ⟨mkX2_putInto, ⟨_, rfl, rfl⟩, jTB_mem (List.mem_of_getElem? (i := 433) (by decide +kernel)) rfl, jTB_mem (List.mem_of_getElem? (i := 355) (by decide +kernel)) rfl, jTB_mem (List.mem_of_getElem? (i := 356) (by decide +kernel)) rfl⟩
theorem kX5_92 : jCV RX5 92 5 mX5_moveUse 1 := ⟨mkX5_moveUse, ⟨_, rfl, rfl⟩, jTB_mem (List.mem_of_getElem? (i := 438) (by decide +kernel)) rfl, jTB_mem (List.mem_of_getElem? (i := 440) (by decide +kernel)) rfl, jTB_mem (List.mem_of_getElem? (i := 7) (by decide +kernel)) rfl⟩
theorem kX5_98 : jCV RX5 98 2 mX2_around 1 := ⟨mkX2_around, ⟨_, rfl, rfl⟩, jTB_mem (List.mem_of_getElem? (i := 442) (by decide +kernel)) rfl, jTB_mem (List.mem_of_getElem? (i := 443) (by decide +kernel)) rfl, jTB_mem (List.mem_of_getElem? (i := 444) (by decide +kernel)) rfl⟩
theorem kX5_103 : jCS RX5 103 mX5_betters 2 := ⟨mkX5_betters, jTB_mem (List.mem_of_getElem? (i := 447) (by decide +kernel)) rfl, jTB_mem (List.mem_of_getElem? (i := 448) (by decide +kernel)) rfl⟩
theorem kX5_107 : jCV RX5 107 5 mX5_meltInto 1 := ⟨mkX5_meltInto, ⟨_, rfl, rfl⟩, jTB_mem (List.mem_of_getElem? (i := 454) (by decide +kernel)) rfl, jTB_mem (List.mem_of_getElem? (i := 456) (by decide +kernel)) rfl, jTB_mem (List.mem_of_getElem? (i := 9) (by decide +kernel)) rfl⟩
theorem kX5_110 : jCV RX5 110 0 mX0_brokenByMelt 2 := ⟨mkX0_brokenByMelt, ⟨_, rfl, rfl⟩, jTB_mem (List.mem_of_getElem? (i := 458) (by decide +kernel)) rfl, jTB_mem (List.mem_of_getElem? (i := 459) (by decide +kernel)) rfl, jTB_mem (List.mem_of_getElem? (i := 460) (by decide +kernel)) rfl⟩
theorem kX5_114 : jCV RX5 114 2 mX2_melt 2 := ⟨mkX2_melt, ⟨_, rfl, rfl⟩, jTB_mem (List.mem_of_getElem? (i := 462) (by decide +kernel)) rfl, jTB_mem (List.mem_of_getElem? (i := 463) (by decide +kernel)) rfl, jTB_mem (List.mem_of_getElem? (i := 464) (by decide +kernel)) rfl⟩
theorem kX6_28 : jCS RX6 28 mJ7_fill_53178 2 := ⟨mkJ7_fill_53178, jTB_mem (List.mem_of_getElem? (i := 68) (by decide +kernel)) rfl, jTB_mem (List.mem_of_getElem? (i := 69) (by decide +kernel)) rfl⟩
theorem kX6_38 : jCN RX6 38 mX7_bit 1 := ⟨mkX7_bit, ⟨"WordSenses", jNL_mem (List.mem_of_getElem? (i := 309) (by decide +kernel)) rfl⟩, jTB_mem (List.mem_of_getElem? (i := 310) (by decide +kernel)) rfl⟩
theorem kX6_42 : jCV RX6 42 6 mX6_apart 2 := ⟨mkX6_apart, ⟨_, rfl, rfl⟩, jTB_mem (List.mem_of_getElem? (i := 312) (by decide +kernel)) rfl, jTB_mem (List.mem_of_getElem? (i := 313) (by decide +kernel)) rfl, jTB_mem (List.mem_of_getElem? (i := 314) (by decide +kernel)) rfl⟩
theorem kX6_46 : jCV RX6 46 6 mX6_setBetween 3 := ⟨mkX6_setBetween, ⟨_, rfl, rfl⟩, jTB_mem (List.mem_of_getElem? (i := 288) (by decide +kernel)) rfl, jTB_mem (List.mem_of_getElem? (i := 290) (by decide +kernel)) rfl, jTB_mem (List.mem_of_getElem? (i := 0) (by decide +kernel)) rfl⟩
theorem kX6_50 : jCV RX6 50 6 mX6_between 2 := ⟨mkX6_between, ⟨_, rfl, rfl⟩, jTB_mem (List.mem_of_getElem? (i := 284) (by decide +kernel)) rfl, jTB_mem (List.mem_of_getElem? (i := 285) (by decide +kernel)) rfl, jTB_mem (List.mem_of_getElem? (i := 286) (by decide +kernel)) rfl⟩
theorem kX6_53 : jCN RX6 53 mX7_holds 2 := ⟨mkX7_holds, ⟨"WordSenses", jNL_mem (List.mem_of_getElem? (i := 497) (by decide +kernel)) rfl⟩, jTB_mem (List.mem_of_getElem? (i := 326) (by decide +kernel)) rfl⟩
theorem kX6_57 : jCN RX6 57 mX7_within 3 := ⟨mkX7_within, ⟨"WordSenses", jNL_mem (List.mem_of_getElem? (i := 633) (by decide +kernel)) rfl⟩, jTB_mem (List.mem_of_getElem? (i := 278) (by decide +kernel)) rfl⟩
theorem kX6_61 : jCS RX6 61 mJ9_min_7cf53 2 := ⟨mkJ9_min_7cf53, jTB_mem (List.mem_of_getElem? (i := 642) (by decide +kernel)) rfl, jTB_mem (List.mem_of_getElem? (i := 339) (by decide +kernel)) rfl⟩
theorem kL_13 : jCV RL 13 7 mX7_weight 2 := ⟨mkX7_weight, ⟨_, rfl, rfl⟩, jTB_mem (List.mem_of_getElem? (i := 273) (by decide +kernel)) rfl, jTB_mem (List.mem_of_getElem? (i := 274) (by decide +kernel)) rfl, jTB_mem (List.mem_of_getElem? (i := 275) (by decide +kernel)) rfl⟩
theorem kL_17 : jCV RL 17 8 mX8_weight 2 := ⟨mkX8_weight, ⟨_, rfl, rfl⟩, jTB_mem (List.mem_of_getElem? (i := 719) (by decide +kernel)) rfl, jTB_mem (List.mem_of_getElem? (i := 720) (by decide +kernel)) rfl, jTB_mem (List.mem_of_getElem? (i := 721) (by decide +kernel)) rfl⟩
theorem kL_18 : jCV RL 18 7 mX7_prices 2 := ⟨mkX7_prices, ⟨_, rfl, rfl⟩, jTB_mem (List.mem_of_getElem? (i := 292) (by decide +kernel)) rfl, jTB_mem (List.mem_of_getElem? (i := 293) (by decide +kernel)) rfl, jTB_mem (List.mem_of_getElem? (i := 294) (by decide +kernel)) rfl⟩
theorem kL_21 : jCV RL 21 8 mX8_prices 2 := ⟨mkX8_prices, ⟨_, rfl, rfl⟩, jTB_mem (List.mem_of_getElem? (i := 734) (by decide +kernel)) rfl, jTB_mem (List.mem_of_getElem? (i := 735) (by decide +kernel)) rfl, jTB_mem (List.mem_of_getElem? (i := 736) (by decide +kernel)) rfl⟩
theorem kL_22 : jCV RL 22 7 mX7_marks 2 := ⟨mkX7_marks, ⟨_, rfl, rfl⟩, jTB_mem (List.mem_of_getElem? (i := 296) (by decide +kernel)) rfl, jTB_mem (List.mem_of_getElem? (i := 297) (by decide +kernel)) rfl, jTB_mem (List.mem_of_getElem? (i := 298) (by decide +kernel)) rfl⟩
theorem kL_25 : jCV RL 25 8 mX8_marks 2 := ⟨mkX8_marks, ⟨_, rfl, rfl⟩, jTB_mem (List.mem_of_getElem? (i := 738) (by decide +kernel)) rfl, jTB_mem (List.mem_of_getElem? (i := 739) (by decide +kernel)) rfl, jTB_mem (List.mem_of_getElem? (i := 740) (by decide +kernel)) rfl⟩
theorem kL_26 : jCV RL 26 7 mX7_use 2 := ⟨mkX7_use, ⟨_, rfl, rfl⟩, jTB_mem (List.mem_of_getElem? (i := 300) (by decide +kernel)) rfl, jTB_mem (List.mem_of_getElem? (i := 301) (by decide +kernel)) rfl, jTB_mem (List.mem_of_getElem? (i := 302) (by decide +kernel)) rfl⟩
theorem kL_30 : jCV RL 30 8 mX8_use 2 := ⟨mkX8_use, ⟨_, rfl, rfl⟩, jTB_mem (List.mem_of_getElem? (i := 742) (by decide +kernel)) rfl, jTB_mem (List.mem_of_getElem? (i := 743) (by decide +kernel)) rfl, jTB_mem (List.mem_of_getElem? (i := 744) (by decide +kernel)) rfl⟩
theorem kL_31 : jCV RL 31 7 mX7_fix 2 := ⟨mkX7_fix, ⟨_, rfl, rfl⟩, jTB_mem (List.mem_of_getElem? (i := 358) (by decide +kernel)) rfl, jTB_mem (List.mem_of_getElem? (i := 359) (by decide +kernel)) rfl, jTB_mem (List.mem_of_getElem? (i := 360) (by decide +kernel)) rfl⟩
theorem kL_34 : jCV RL 34 8 mX8_fix 2 := ⟨mkX8_fix, ⟨_, rfl, rfl⟩, jTB_mem (List.mem_of_getElem? (i := 751) (by decide +kernel)) rfl, jTB_mem (List.mem_of_getElem? (i := 752) (by decide +kernel)) rfl, jTB_mem (List.mem_of_getElem? (i := 753) (by decide +kernel)) rfl⟩
theorem kL_35 : jCV RL 35 7 mX7_bond 3 := ⟨mkX7_bond, ⟨_, rfl, rfl⟩, jTB_mem (List.mem_of_getElem? (i := 373) (by decide +kernel)) rfl, jTB_mem (List.mem_of_getElem? (i := 374) (by decide +kernel)) rfl, jTB_mem (List.mem_of_getElem? (i := 375) (by decide +kernel)) rfl⟩
theorem kL_39 : jCV RL 39 8 mX8_bond 3 := ⟨mkX8_bond, ⟨_, rfl, rfl⟩, jTB_mem (List.mem_of_getElem? (i := 767) (by decide +kernel)) rfl, jTB_mem (List.mem_of_getElem? (i := 768) (by decide +kernel)) rfl, jTB_mem (List.mem_of_getElem? (i := 769) (by decide +kernel)) rfl⟩
theorem kL_40 : jCV RL 40 7 mX7_free 2 := ⟨mkX7_free, ⟨_, rfl, rfl⟩, jTB_mem (List.mem_of_getElem? (i := 392) (by decide +kernel)) rfl, jTB_mem (List.mem_of_getElem? (i := 393) (by decide +kernel)) rfl, jTB_mem (List.mem_of_getElem? (i := 394) (by decide +kernel)) rfl⟩
theorem kL_43 : jCV RL 43 8 mX8_free 2 := ⟨mkX8_free, ⟨_, rfl, rfl⟩, jTB_mem (List.mem_of_getElem? (i := 775) (by decide +kernel)) rfl, jTB_mem (List.mem_of_getElem? (i := 776) (by decide +kernel)) rfl, jTB_mem (List.mem_of_getElem? (i := 777) (by decide +kernel)) rfl⟩
theorem kL_44 : jCV RL 44 7 mX7_settle 1 := ⟨mkX7_settle, ⟨_, rfl, rfl⟩, jTB_mem (List.mem_of_getElem? (i := 397) (by decide +kernel)) rfl, jTB_mem (List.mem_of_getElem? (i := 398) (by decide +kernel)) rfl, jTB_mem (List.mem_of_getElem? (i := 399) (by decide +kernel)) rfl⟩
theorem kL_48 : jCV RL 48 8 mX8_settle 1 := ⟨mkX8_settle, ⟨_, rfl, rfl⟩, jTB_mem (List.mem_of_getElem? (i := 787) (by decide +kernel)) rfl, jTB_mem (List.mem_of_getElem? (i := 788) (by decide +kernel)) rfl, jTB_mem (List.mem_of_getElem? (i := 789) (by decide +kernel)) rfl⟩
theorem kL_49 : jCV RL 49 7 mX7_heap 1 := ⟨mkX7_heap, ⟨_, rfl, rfl⟩, jTB_mem (List.mem_of_getElem? (i := 466) (by decide +kernel)) rfl, jTB_mem (List.mem_of_getElem? (i := 467) (by decide +kernel)) rfl, jTB_mem (List.mem_of_getElem? (i := 468) (by decide +kernel)) rfl⟩
theorem kL_52 : jCV RL 52 8 mX8_heap 1 := ⟨mkX8_heap, ⟨_, rfl, rfl⟩, jTB_mem (List.mem_of_getElem? (i := 819) (by decide +kernel)) rfl, jTB_mem (List.mem_of_getElem? (i := 820) (by decide +kernel)) rfl, jTB_mem (List.mem_of_getElem? (i := 821) (by decide +kernel)) rfl⟩
theorem kL_53 : jCV RL 53 7 mX7_size 1 := ⟨mkX7_size, ⟨_, rfl, rfl⟩, jTB_mem (List.mem_of_getElem? (i := 470) (by decide +kernel)) rfl, jTB_mem (List.mem_of_getElem? (i := 471) (by decide +kernel)) rfl, jTB_mem (List.mem_of_getElem? (i := 472) (by decide +kernel)) rfl⟩
theorem kL_56 : jCV RL 56 8 mX8_size 1 := ⟨mkX8_size, ⟨_, rfl, rfl⟩, jTB_mem (List.mem_of_getElem? (i := 823) (by decide +kernel)) rfl, jTB_mem (List.mem_of_getElem? (i := 808) (by decide +kernel)) rfl, jTB_mem (List.mem_of_getElem? (i := 809) (by decide +kernel)) rfl⟩
theorem kL_57 : jCV RL 57 7 mX7_far 2 := ⟨mkX7_far, ⟨_, rfl, rfl⟩, jTB_mem (List.mem_of_getElem? (i := 479) (by decide +kernel)) rfl, jTB_mem (List.mem_of_getElem? (i := 480) (by decide +kernel)) rfl, jTB_mem (List.mem_of_getElem? (i := 481) (by decide +kernel)) rfl⟩
theorem kL_60 : jCV RL 60 8 mX8_far 2 := ⟨mkX8_far, ⟨_, rfl, rfl⟩, jTB_mem (List.mem_of_getElem? (i := 824) (by decide +kernel)) rfl, jTB_mem (List.mem_of_getElem? (i := 825) (by decide +kernel)) rfl, jTB_mem (List.mem_of_getElem? (i := 826) (by decide +kernel)) rfl⟩
theorem kL_61 : jCV RL 61 7 mX7_cost 0 := ⟨mkX7_cost, ⟨_, rfl, rfl⟩, jTB_mem (List.mem_of_getElem? (i := 484) (by decide +kernel)) rfl, jTB_mem (List.mem_of_getElem? (i := 485) (by decide +kernel)) rfl, jTB_mem (List.mem_of_getElem? (i := 486) (by decide +kernel)) rfl⟩
theorem kL_65 : jCV RL 65 8 mX8_cost 0 := ⟨mkX8_cost, ⟨_, rfl, rfl⟩, jTB_mem (List.mem_of_getElem? (i := 828) (by decide +kernel)) rfl, jTB_mem (List.mem_of_getElem? (i := 829) (by decide +kernel)) rfl, jTB_mem (List.mem_of_getElem? (i := 830) (by decide +kernel)) rfl⟩
theorem kL_66 : jCV RL 66 7 mX7_broken 0 := ⟨mkX7_broken, ⟨_, rfl, rfl⟩, jTB_mem (List.mem_of_getElem? (i := 502) (by decide +kernel)) rfl, jTB_mem (List.mem_of_getElem? (i := 503) (by decide +kernel)) rfl, jTB_mem (List.mem_of_getElem? (i := 504) (by decide +kernel)) rfl⟩
theorem kL_69 : jCV RL 69 8 mX8_broken 0 := ⟨mkX8_broken, ⟨_, rfl, rfl⟩, jTB_mem (List.mem_of_getElem? (i := 779) (by decide +kernel)) rfl, jTB_mem (List.mem_of_getElem? (i := 780) (by decide +kernel)) rfl, jTB_mem (List.mem_of_getElem? (i := 781) (by decide +kernel)) rfl⟩
theorem kL_70 : jCV RL 70 7 mX7_best 0 := ⟨mkX7_best, ⟨_, rfl, rfl⟩, jTB_mem (List.mem_of_getElem? (i := 513) (by decide +kernel)) rfl, jTB_mem (List.mem_of_getElem? (i := 514) (by decide +kernel)) rfl, jTB_mem (List.mem_of_getElem? (i := 515) (by decide +kernel)) rfl⟩
theorem kL_73 : jCV RL 73 8 mX8_best 0 := ⟨mkX8_best, ⟨_, rfl, rfl⟩, jTB_mem (List.mem_of_getElem? (i := 832) (by decide +kernel)) rfl, jTB_mem (List.mem_of_getElem? (i := 833) (by decide +kernel)) rfl, jTB_mem (List.mem_of_getElem? (i := 834) (by decide +kernel)) rfl⟩
theorem kL_74 : jCV RL 74 7 mX7_name 1 := ⟨mkX7_name, ⟨_, rfl, rfl⟩, jTB_mem (List.mem_of_getElem? (i := 532) (by decide +kernel)) rfl, jTB_mem (List.mem_of_getElem? (i := 533) (by decide +kernel)) rfl, jTB_mem (List.mem_of_getElem? (i := 534) (by decide +kernel)) rfl⟩
theorem kL_77 : jCV RL 77 8 mX8_name 1 := ⟨mkX8_name, ⟨_, rfl, rfl⟩, jTB_mem (List.mem_of_getElem? (i := 844) (by decide +kernel)) rfl, jTB_mem (List.mem_of_getElem? (i := 845) (by decide +kernel)) rfl, jTB_mem (List.mem_of_getElem? (i := 846) (by decide +kernel)) rfl⟩
theorem kL_78 : jCV RL 78 7 mX7_core 1 := ⟨mkX7_core, ⟨_, rfl, rfl⟩, jTB_mem (List.mem_of_getElem? (i := 558) (by decide +kernel)) rfl, jTB_mem (List.mem_of_getElem? (i := 559) (by decide +kernel)) rfl, jTB_mem (List.mem_of_getElem? (i := 560) (by decide +kernel)) rfl⟩
theorem kL_81 : jCV RL 81 8 mX8_core 1 := ⟨mkX8_core, ⟨_, rfl, rfl⟩, jTB_mem (List.mem_of_getElem? (i := 852) (by decide +kernel)) rfl, jTB_mem (List.mem_of_getElem? (i := 853) (by decide +kernel)) rfl, jTB_mem (List.mem_of_getElem? (i := 854) (by decide +kernel)) rfl⟩
theorem kL_82 : jCV RL 82 7 mX7_sense 1 := ⟨mkX7_sense, ⟨_, rfl, rfl⟩, jTB_mem (List.mem_of_getElem? (i := 566) (by decide +kernel)) rfl, jTB_mem (List.mem_of_getElem? (i := 567) (by decide +kernel)) rfl, jTB_mem (List.mem_of_getElem? (i := 568) (by decide +kernel)) rfl⟩
theorem kL_85 : jCV RL 85 8 mX8_sense 1 := ⟨mkX8_sense, ⟨_, rfl, rfl⟩, jTB_mem (List.mem_of_getElem? (i := 856) (by decide +kernel)) rfl, jTB_mem (List.mem_of_getElem? (i := 857) (by decide +kernel)) rfl, jTB_mem (List.mem_of_getElem? (i := 858) (by decide +kernel)) rfl⟩
theorem kL_86 : jCV RL 86 7 mX7_matched 1 := ⟨mkX7_matched, ⟨_, rfl, rfl⟩, jTB_mem (List.mem_of_getElem? (i := 574) (by decide +kernel)) rfl, jTB_mem (List.mem_of_getElem? (i := 575) (by decide +kernel)) rfl, jTB_mem (List.mem_of_getElem? (i := 576) (by decide +kernel)) rfl⟩
theorem kL_89 : jCV RL 89 8 mX8_matched 1 := ⟨mkX8_matched, ⟨_, rfl, rfl⟩, jTB_mem (List.mem_of_getElem? (i := 860) (by decide +kernel)) rfl, jTB_mem (List.mem_of_getElem? (i := 861) (by decide +kernel)) rfl, jTB_mem (List.mem_of_getElem? (i := 862) (by decide +kernel)) rfl⟩
theorem kL_90 : jCV RL 90 7 mX7_sum 0 := ⟨mkX7_sum, ⟨_, rfl, rfl⟩, jTB_mem (List.mem_of_getElem? (i := 608) (by decide +kernel)) rfl, jTB_mem (List.mem_of_getElem? (i := 609) (by decide +kernel)) rfl, jTB_mem (List.mem_of_getElem? (i := 610) (by decide +kernel)) rfl⟩
theorem kL_93 : jCV RL 93 8 mX8_sum 0 := ⟨mkX8_sum, ⟨_, rfl, rfl⟩, jTB_mem (List.mem_of_getElem? (i := 877) (by decide +kernel)) rfl, jTB_mem (List.mem_of_getElem? (i := 878) (by decide +kernel)) rfl, jTB_mem (List.mem_of_getElem? (i := 879) (by decide +kernel)) rfl⟩
theorem kL_94 : jCV RL 94 7 mX7_share 4 := ⟨mkX7_share, ⟨_, rfl, rfl⟩, jTB_mem (List.mem_of_getElem? (i := 616) (by decide +kernel)) rfl, jTB_mem (List.mem_of_getElem? (i := 617) (by decide +kernel)) rfl, jTB_mem (List.mem_of_getElem? (i := 618) (by decide +kernel)) rfl⟩
theorem kL_98 : jCV RL 98 8 mX8_share 4 := ⟨mkX8_share, ⟨_, rfl, rfl⟩, jTB_mem (List.mem_of_getElem? (i := 881) (by decide +kernel)) rfl, jTB_mem (List.mem_of_getElem? (i := 882) (by decide +kernel)) rfl, jTB_mem (List.mem_of_getElem? (i := 883) (by decide +kernel)) rfl⟩
theorem kL_99 : jCV RL 99 7 mX7_first 1 := ⟨mkX7_first, ⟨_, rfl, rfl⟩, jTB_mem (List.mem_of_getElem? (i := 634) (by decide +kernel)) rfl, jTB_mem (List.mem_of_getElem? (i := 635) (by decide +kernel)) rfl, jTB_mem (List.mem_of_getElem? (i := 636) (by decide +kernel)) rfl⟩
theorem kL_102 : jCV RL 102 8 mX8_first 1 := ⟨mkX8_first, ⟨_, rfl, rfl⟩, jTB_mem (List.mem_of_getElem? (i := 885) (by decide +kernel)) rfl, jTB_mem (List.mem_of_getElem? (i := 886) (by decide +kernel)) rfl, jTB_mem (List.mem_of_getElem? (i := 887) (by decide +kernel)) rfl⟩
theorem kL_103 : jCV RL 103 7 mX7_count 1 := ⟨mkX7_count, ⟨_, rfl, rfl⟩, jTB_mem (List.mem_of_getElem? (i := 643) (by decide +kernel)) rfl, jTB_mem (List.mem_of_getElem? (i := 644) (by decide +kernel)) rfl, jTB_mem (List.mem_of_getElem? (i := 645) (by decide +kernel)) rfl⟩
theorem kL_106 : jCV RL 106 8 mX8_count 1 := ⟨mkX8_count, ⟨_, rfl, rfl⟩, jTB_mem (List.mem_of_getElem? (i := 889) (by decide +kernel)) rfl, jTB_mem (List.mem_of_getElem? (i := 890) (by decide +kernel)) rfl, jTB_mem (List.mem_of_getElem? (i := 891) (by decide +kernel)) rfl⟩
theorem kX8_63 : jCS RX8 63 mX8_in 3 := ⟨mkX8_in, jTB_mem (List.mem_of_getElem? (i := 723) (by decide +kernel)) rfl, jTB_mem (List.mem_of_getElem? (i := 724) (by decide +kernel)) rfl⟩
theorem kX8_67 : jCV RX8 67 8 mX8_apart 2 := ⟨mkX8_apart, ⟨_, rfl, rfl⟩, jTB_mem (List.mem_of_getElem? (i := 730) (by decide +kernel)) rfl, jTB_mem (List.mem_of_getElem? (i := 732) (by decide +kernel)) rfl, jTB_mem (List.mem_of_getElem? (i := 21) (by decide +kernel)) rfl⟩
theorem kX8_71 : jCV RX8 71 8 mX8_reckons 0 := ⟨mkX8_reckons, ⟨_, rfl, rfl⟩, jTB_mem (List.mem_of_getElem? (i := 726) (by decide +kernel)) rfl, jTB_mem (List.mem_of_getElem? (i := 728) (by decide +kernel)) rfl, jTB_mem (List.mem_of_getElem? (i := 20) (by decide +kernel)) rfl⟩
theorem kX8_74 : jCV RX8 74 8 mX8_isUse 1 := ⟨mkX8_isUse, ⟨_, rfl, rfl⟩, jTB_mem (List.mem_of_getElem? (i := 755) (by decide +kernel)) rfl, jTB_mem (List.mem_of_getElem? (i := 757) (by decide +kernel)) rfl, jTB_mem (List.mem_of_getElem? (i := 23) (by decide +kernel)) rfl⟩
theorem kX8_79 : jCV RX8 79 8 mX8_beside 2 := ⟨mkX8_beside, ⟨_, rfl, rfl⟩, jTB_mem (List.mem_of_getElem? (i := 747) (by decide +kernel)) rfl, jTB_mem (List.mem_of_getElem? (i := 749) (by decide +kernel)) rfl, jTB_mem (List.mem_of_getElem? (i := 22) (by decide +kernel)) rfl⟩
theorem kX8_82 : jCV RX8 82 8 mX8_leaves 1 := ⟨mkX8_leaves, ⟨_, rfl, rfl⟩, jTB_mem (List.mem_of_getElem? (i := 759) (by decide +kernel)) rfl, jTB_mem (List.mem_of_getElem? (i := 761) (by decide +kernel)) rfl, jTB_mem (List.mem_of_getElem? (i := 24) (by decide +kernel)) rfl⟩
theorem kX8_86 : jCV RX8 86 8 mX8_goes 2 := ⟨mkX8_goes, ⟨_, rfl, rfl⟩, jTB_mem (List.mem_of_getElem? (i := 763) (by decide +kernel)) rfl, jTB_mem (List.mem_of_getElem? (i := 765) (by decide +kernel)) rfl, jTB_mem (List.mem_of_getElem? (i := 25) (by decide +kernel)) rfl⟩
theorem kX8_93 : jCV RX8 93 8 mX8_bondOf 2 := ⟨mkX8_bondOf, ⟨_, rfl, rfl⟩, jTB_mem (List.mem_of_getElem? (i := 771) (by decide +kernel)) rfl, jTB_mem (List.mem_of_getElem? (i := 773) (by decide +kernel)) rfl, jTB_mem (List.mem_of_getElem? (i := 26) (by decide +kernel)) rfl⟩
theorem kX8_96 : jCV RX8 96 8 mX8_isBroken 3 := ⟨mkX8_isBroken, ⟨_, rfl, rfl⟩, jTB_mem (List.mem_of_getElem? (i := 783) (by decide +kernel)) rfl, jTB_mem (List.mem_of_getElem? (i := 785) (by decide +kernel)) rfl, jTB_mem (List.mem_of_getElem? (i := 27) (by decide +kernel)) rfl⟩
theorem kX8_99 : jCV RX8 99 8 mX8_breaks 2 := ⟨mkX8_breaks, ⟨_, rfl, rfl⟩, jTB_mem (List.mem_of_getElem? (i := 799) (by decide +kernel)) rfl, jTB_mem (List.mem_of_getElem? (i := 801) (by decide +kernel)) rfl, jTB_mem (List.mem_of_getElem? (i := 30) (by decide +kernel)) rfl⟩
theorem kX8_102 : jCV RX8 102 8 mX8_size 1 := ⟨mkX8_size, ⟨_, rfl, rfl⟩, jTB_mem (List.mem_of_getElem? (i := 807) (by decide +kernel)) rfl, jTB_mem (List.mem_of_getElem? (i := 808) (by decide +kernel)) rfl, jTB_mem (List.mem_of_getElem? (i := 809) (by decide +kernel)) rfl⟩
theorem kX8_106 : jCV RX8 106 8 mX8_lays 1 := ⟨mkX8_lays, ⟨_, rfl, rfl⟩, jTB_mem (List.mem_of_getElem? (i := 795) (by decide +kernel)) rfl, jTB_mem (List.mem_of_getElem? (i := 797) (by decide +kernel)) rfl, jTB_mem (List.mem_of_getElem? (i := 29) (by decide +kernel)) rfl⟩
theorem kX8_109 : jCV RX8 109 8 mX8_moves 1 := ⟨mkX8_moves, ⟨_, rfl, rfl⟩, jTB_mem (List.mem_of_getElem? (i := 803) (by decide +kernel)) rfl, jTB_mem (List.mem_of_getElem? (i := 805) (by decide +kernel)) rfl, jTB_mem (List.mem_of_getElem? (i := 31) (by decide +kernel)) rfl⟩
theorem kX8_112 : jCV RX8 112 8 mX8_melts 2 := ⟨mkX8_melts, ⟨_, rfl, rfl⟩, jTB_mem (List.mem_of_getElem? (i := 815) (by decide +kernel)) rfl, jTB_mem (List.mem_of_getElem? (i := 817) (by decide +kernel)) rfl, jTB_mem (List.mem_of_getElem? (i := 33) (by decide +kernel)) rfl⟩
theorem kX8_116 : jCV RX8 116 8 mX8_goesOn 0 := ⟨mkX8_goesOn, ⟨_, rfl, rfl⟩, jTB_mem (List.mem_of_getElem? (i := 791) (by decide +kernel)) rfl, jTB_mem (List.mem_of_getElem? (i := 793) (by decide +kernel)) rfl, jTB_mem (List.mem_of_getElem? (i := 28) (by decide +kernel)) rfl⟩
theorem kX8_123 : jCV RX8 123 8 mX8_isHeap 1 := ⟨mkX8_isHeap, ⟨_, rfl, rfl⟩, jTB_mem (List.mem_of_getElem? (i := 811) (by decide +kernel)) rfl, jTB_mem (List.mem_of_getElem? (i := 813) (by decide +kernel)) rfl, jTB_mem (List.mem_of_getElem? (i := 32) (by decide +kernel)) rfl⟩
theorem kX8_126 : jCV RX8 126 8 mX8_parted 0 := ⟨mkX8_parted, ⟨_, rfl, rfl⟩, jTB_mem (List.mem_of_getElem? (i := 836) (by decide +kernel)) rfl, jTB_mem (List.mem_of_getElem? (i := 838) (by decide +kernel)) rfl, jTB_mem (List.mem_of_getElem? (i := 34) (by decide +kernel)) rfl⟩
theorem kX8_130 : jCV RX8 130 8 mX8_nexts 0 := ⟨mkX8_nexts, ⟨_, rfl, rfl⟩, jTB_mem (List.mem_of_getElem? (i := 840) (by decide +kernel)) rfl, jTB_mem (List.mem_of_getElem? (i := 842) (by decide +kernel)) rfl, jTB_mem (List.mem_of_getElem? (i := 35) (by decide +kernel)) rfl⟩
theorem kX8_133 : jCV RX8 133 8 mX8_isName 2 := ⟨mkX8_isName, ⟨_, rfl, rfl⟩, jTB_mem (List.mem_of_getElem? (i := 848) (by decide +kernel)) rfl, jTB_mem (List.mem_of_getElem? (i := 850) (by decide +kernel)) rfl, jTB_mem (List.mem_of_getElem? (i := 36) (by decide +kernel)) rfl⟩
theorem kX8_139 : jCV RX8 139 8 mX8_isGreat 1 := ⟨mkX8_isGreat, ⟨_, rfl, rfl⟩, jTB_mem (List.mem_of_getElem? (i := 868) (by decide +kernel)) rfl, jTB_mem (List.mem_of_getElem? (i := 870) (by decide +kernel)) rfl, jTB_mem (List.mem_of_getElem? (i := 38) (by decide +kernel)) rfl⟩
theorem kX8_145 : jCV RX8 145 8 mX8_sumOf 3 := ⟨mkX8_sumOf, ⟨_, rfl, rfl⟩, jTB_mem (List.mem_of_getElem? (i := 872) (by decide +kernel)) rfl, jTB_mem (List.mem_of_getElem? (i := 874) (by decide +kernel)) rfl, jTB_mem (List.mem_of_getElem? (i := 39) (by decide +kernel)) rfl⟩
theorem kX8_149 : jCV RX8 149 8 mX8_core 1 := ⟨mkX8_core, ⟨_, rfl, rfl⟩, jTB_mem (List.mem_of_getElem? (i := 876) (by decide +kernel)) rfl, jTB_mem (List.mem_of_getElem? (i := 853) (by decide +kernel)) rfl, jTB_mem (List.mem_of_getElem? (i := 854) (by decide +kernel)) rfl⟩
theorem kX8_152 : jCV RX8 152 8 mX8_matches 0 := ⟨mkX8_matches, ⟨_, rfl, rfl⟩, jTB_mem (List.mem_of_getElem? (i := 864) (by decide +kernel)) rfl, jTB_mem (List.mem_of_getElem? (i := 866) (by decide +kernel)) rfl, jTB_mem (List.mem_of_getElem? (i := 37) (by decide +kernel)) rfl⟩
theorem qX7_87 : Cond.constant RX7 87 (jI (1048575)) ∈ jTB := jTB_mem (by decide +kernel) rfl
theorem qX2_94 : Cond.constant RX2 94 (jI (1000000000)) ∈ jTB := jTB_mem (by decide +kernel) rfl
theorem qX2_51 : Cond.constantLong RX2 51 (jL (-1)) ∈ jTB := jTB_mem (by decide +kernel) rfl
theorem qX0_34 : Cond.constantLong RX0 34 (jL (-1)) ∈ jTB := jTB_mem (by decide +kernel) rfl
theorem qX5_63 : Cond.constant RX5 63 (jI (1000000000)) ∈ jTB := jTB_mem (by decide +kernel) rfl
theorem qJ13_314 : Cond.constantLong RJ13 314 (jL (6148914691236517205)) ∈ jTB := jTB_mem (by decide +kernel) rfl
theorem qJ13_316 : Cond.constantLong RJ13 316 (jL (3689348814741910323)) ∈ jTB := jTB_mem (by decide +kernel) rfl
theorem qJ13_318 : Cond.constantLong RJ13 318 (jL (1085102592571150095)) ∈ jTB := jTB_mem (by decide +kernel) rfl
theorem qX5_101 : Cond.constantLong RX5 101 (jL (-1)) ∈ jTB := jTB_mem (by decide +kernel) rfl
theorem qX4_27 : Cond.constant RX4 27 (jI (1000000000)) ∈ jTB := jTB_mem (by decide +kernel) rfl
theorem qX3_47 : Cond.constantLong RX3 47 (jL (-1)) ∈ jTB := jTB_mem (by decide +kernel) rfl
theorem qX1_73 : Cond.constant RX1 73 (jI (1000000000)) ∈ jTB := jTB_mem (by decide +kernel) rfl
theorem qX8_78 : Cond.constant RX8 78 (jI (1048575)) ∈ jTB := jTB_mem (by decide +kernel) rfl

abbrev MX0_init : ZMeth := (yX0_init, cX0_init, 2, none)
abbrev MX0_add : ZMeth := (yX0_add, cX0_add, 2, none)
abbrev MX0_exclude : ZMeth := (yX0_exclude, cX0_exclude, 2, none)
abbrev MX0_fits : ZMeth := (yX0_fits, cX0_fits, 3, (some .boolean))
abbrev MX0_fitsBare : ZMeth := (yX0_fitsBare, cX0_fitsBare, 3, (some .boolean))
abbrev MX1_init : ZMeth := (yX1_init, cX1_init, 6, none)
abbrev MX2_init : ZMeth := (yX2_init, cX2_init, 6, none)
abbrev MX2_adopt : ZMeth := (yX2_adopt, cX2_adopt, 2, none)
abbrev MX2_isLast : ZMeth := (yX2_isLast, cX2_isLast, 1, (some .boolean))
abbrev MX2_related : ZMeth := (yX2_related, cX2_related, 2, (some .int))
abbrev MX3_init : ZMeth := (yX3_init, cX3_init, 4, none)
abbrev MX3_holds : ZMeth := (yX3_holds, cX3_holds, 2, (some .boolean))
abbrev MX3_isReached : ZMeth := (yX3_isReached, cX3_isReached, 2, (some .boolean))
abbrev MX4_init : ZMeth := (yX4_init, cX4_init, 1, none)
abbrev MX4_settle : ZMeth := (yX4_settle, cX4_settle, 5, none)
abbrev MX4_settleAt : ZMeth := (yX4_settleAt, cX4_settleAt, 9, none)
abbrev MX4_setUnits : ZMeth := (yX4_setUnits, cX4_setUnits, 4, none)
abbrev MX4_workOut : ZMeth := (yX4_workOut, cX4_workOut, 8, none)
abbrev MX4_pass : ZMeth := (yX4_pass, cX4_pass, 8, (some .boolean))
abbrev MX4_find : ZMeth := (yX4_find, cX4_find, 5, (some (.object "StyleDesk$Element")))
abbrev MX4_open : ZMeth := (yX4_open, cX4_open, 3, none)
abbrev MX4_push : ZMeth := (yX4_push, cX4_push, 4, (some .boolean))
abbrev MX4_pushNumber : ZMeth := (yX4_pushNumber, cX4_pushNumber, 3, (some .boolean))
abbrev MX4_negate : ZMeth := (yX4_negate, cX4_negate, 1, (some .boolean))
abbrev MX4_combine : ZMeth := (yX4_combine, cX4_combine, 7, (some .boolean))
abbrev MX5_init : ZMeth := (yX5_init, cX5_init, 3, none)
abbrev MX5_meet : ZMeth := (yX5_meet, cX5_meet, 4, none)
abbrev MX5_heaviest : ZMeth := (yX5_heaviest, cX5_heaviest, 4, (some .int))
abbrev MX6_init : ZMeth := (yX6_init, cX6_init, 3, none)
abbrev MX6_meet : ZMeth := (yX6_meet, cX6_meet, 9, none)
abbrev MX7_init : ZMeth := (yX7_init, cX7_init, 1, none)
abbrev MX7_clear : ZMeth := (yX7_clear, cX7_clear, 2, none)
abbrev MX7_offer : ZMeth := (yX7_offer, cX7_offer, 7, none)
abbrev MX7_leadingRule : ZMeth := (yX7_leadingRule, cX7_leadingRule, 2, (some .int))
abbrev MX8_init : ZMeth := (yX8_init, cX8_init, 1, none)
abbrev MX8_append : ZMeth := (yX8_append, cX8_append, 5, (some .boolean))
abbrev MX8_size : ZMeth := (yX8_size, cX8_size, 1, (some .int))
abbrev MX8_startReading : ZMeth := (yX8_startReading, cX8_startReading, 1, none)
abbrev MX8_isAtEnd : ZMeth := (yX8_isAtEnd, cX8_isAtEnd, 1, (some .boolean))
abbrev MX8_readSelectors : ZMeth := (yX8_readSelectors, cX8_readSelectors, 4, (some (.object "StyleDesk$Selector")))
abbrev MX8_readSelector : ZMeth := (yX8_readSelector, cX8_readSelector, 7, (some (.object "StyleDesk$Selector")))
abbrev MX8_readCompound : ZMeth := (yX8_readCompound, cX8_readCompound, 6, (some (.object "StyleDesk$Compound")))
abbrev MX8_readPart : ZMeth := (yX8_readPart, cX8_readPart, 7, (some .boolean))
abbrev MX8_readExclusion : ZMeth := (yX8_readExclusion, cX8_readExclusion, 3, (some .boolean))
abbrev MX8_readChildNumber : ZMeth := (yX8_readChildNumber, cX8_readChildNumber, 5, (some (.object "StyleDesk$Part")))
abbrev MX8_readDeclarations : ZMeth := (yX8_readDeclarations, cX8_readDeclarations, 5, (some (.object "StyleDesk$Declaration")))
abbrev MX8_readDeclaration : ZMeth := (yX8_readDeclaration, cX8_readDeclaration, 5, (some (.object "StyleDesk$Declaration")))
abbrev MX8_readName : ZMeth := (yX8_readName, cX8_readName, 2, (some .int))
abbrev MX8_readNamed : ZMeth := (yX8_readNamed, cX8_readNamed, 2, (some .int))
abbrev MX8_readSum : ZMeth := (yX8_readSum, cX8_readSum, 4, (some .boolean))
abbrev MX8_readProduct : ZMeth := (yX8_readProduct, cX8_readProduct, 4, (some .boolean))
abbrev MX8_readFactor : ZMeth := (yX8_readFactor, cX8_readFactor, 3, (some .boolean))
abbrev MX8_readNumber : ZMeth := (yX8_readNumber, cX8_readNumber, 4, (some .boolean))
abbrev MX8_keep : ZMeth := (yX8_keep, cX8_keep, 3, none)
abbrev MX8_readDigit : ZMeth := (yX8_readDigit, cX8_readDigit, 1, (some .int))
abbrev MX8_peek : ZMeth := (yX8_peek, cX8_peek, 1, (some .int))
abbrev MX8_next : ZMeth := (yX8_next, cX8_next, 1, (some .int))
abbrev MX8_take : ZMeth := (yX8_take, cX8_take, 3, (some .boolean))
abbrev MX8_takeWord : ZMeth := (yX8_takeWord, cX8_takeWord, 3, (some .boolean))
abbrev MX8_byteOf : ZMeth := (yX8_byteOf, cX8_byteOf, 2, (some .int))
abbrev MX8_isJoin : ZMeth := (yX8_isJoin, cX8_isJoin, 1, (some .boolean))
abbrev MX8_isPartSign : ZMeth := (yX8_isPartSign, cX8_isPartSign, 1, (some .boolean))
abbrev MX9_init : ZMeth := (yX9_init, cX9_init, 1, none)
abbrev MX9_element : ZMeth := (yX9_element, cX9_element, 9, (some .int))
abbrev MX9_put : ZMeth := (yX9_put, cX9_put, 3, (some .boolean))
abbrev MX9_rule : ZMeth := (yX9_rule, cX9_rule, 4, (some .int))
abbrev MX9_drop : ZMeth := (yX9_drop, cX9_drop, 3, none)
abbrev MX9_matches : ZMeth := (yX9_matches, cX9_matches, 5, (some .boolean))
abbrev MX9_weight : ZMeth := (yX9_weight, cX9_weight, 3, (some .int))
abbrev MX9_winner : ZMeth := (yX9_winner, cX9_winner, 3, (some .int))
abbrev MX9_value : ZMeth := (yX9_value, cX9_value, 3, (some .float))
abbrev MX9_how : ZMeth := (yX9_how, cX9_how, 3, (some .int))
abbrev MX9_count : ZMeth := (yX9_count, cX9_count, 2, (some .int))
abbrev MX9_isElement : ZMeth := (yX9_isElement, cX9_isElement, 2, (some .boolean))
abbrev MX9_checkElement : ZMeth := (yX9_checkElement, cX9_checkElement, 2, none)
abbrev MX9_checkRule : ZMeth := (yX9_checkRule, cX9_checkRule, 2, none)
abbrev MX9_checkName : ZMeth := (yX9_checkName, cX9_checkName, 3, none)
abbrev MX9_catchUp : ZMeth := (yX9_catchUp, cX9_catchUp, 2, none)
abbrev MX9_enter : ZMeth := (yX9_enter, cX9_enter, 7, none)
abbrev MX9_isLetter : ZMeth := (yX9_isLetter, cX9_isLetter, 1, (some .boolean))
abbrev MX9_isDigit : ZMeth := (yX9_isDigit, cX9_isDigit, 1, (some .boolean))
abbrev MX10_init : ZMeth := (yX10_init, cX10_init, 1, none)
abbrev MX10_thrown : ZMeth := (yX10_thrown, cX10_thrown, 1, (some .int))
abbrev MX10_refuse : ZMeth := (yX10_refuse, cX10_refuse, 2, (some .int))
abbrev MX10_outside : ZMeth := (yX10_outside, cX10_outside, 3, (some .boolean))
abbrev MX10_element : ZMeth := (yX10_element, cX10_element, 7, (some .int))
abbrev MX10_put : ZMeth := (yX10_put, cX10_put, 4, (some .boolean))
abbrev MX10_open : ZMeth := (yX10_open, cX10_open, 2, none)
abbrev MX10_look : ZMeth := (yX10_look, cX10_look, 1, (some .char))
abbrev MX10_must : ZMeth := (yX10_must, cX10_must, 2, none)
abbrev MX10_pass : ZMeth := (yX10_pass, cX10_pass, 3, (some .boolean))
abbrev MX10_expect : ZMeth := (yX10_expect, cX10_expect, 2, none)
abbrev MX10_isDigit : ZMeth := (yX10_isDigit, cX10_isDigit, 1, (some .boolean))
abbrev MX10_digit : ZMeth := (yX10_digit, cX10_digit, 1, (some .int))
abbrev MX10_letter : ZMeth := (yX10_letter, cX10_letter, 2, (some .int))
abbrev MX10_addPart : ZMeth := (yX10_addPart, cX10_addPart, 5, none)
abbrev MX10_readCount : ZMeth := (yX10_readCount, cX10_readCount, 5, none)
abbrev MX10_readHead : ZMeth := (yX10_readHead, cX10_readHead, 4, (some .boolean))
abbrev MX10_beginsPart : ZMeth := (yX10_beginsPart, cX10_beginsPart, 1, (some .boolean))
abbrev MX10_readPart : ZMeth := (yX10_readPart, cX10_readPart, 4, (some .boolean))
abbrev MX10_readInner : ZMeth := (yX10_readInner, cX10_readInner, 3, none)
abbrev MX10_readCompound : ZMeth := (yX10_readCompound, cX10_readCompound, 4, none)
abbrev MX10_readSelector : ZMeth := (yX10_readSelector, cX10_readSelector, 3, none)
abbrev MX10_readSelectors : ZMeth := (yX10_readSelectors, cX10_readSelectors, 1, none)
abbrev MX10_add : ZMeth := (yX10_add, cX10_add, 3, none)
abbrev MX10_readNumber : ZMeth := (yX10_readNumber, cX10_readNumber, 5, none)
abbrev MX10_strength : ZMeth := (yX10_strength, cX10_strength, 1, (some .int))
abbrev MX10_pour : ZMeth := (yX10_pour, cX10_pour, 4, (some .int))
abbrev MX10_turned : ZMeth := (yX10_turned, cX10_turned, 3, (some .int))
abbrev MX10_signOf : ZMeth := (yX10_signOf, cX10_signOf, 2, (some .int))
abbrev MX10_readSum : ZMeth := (yX10_readSum, cX10_readSum, 6, none)
abbrev MX10_isOpen : ZMeth := (yX10_isOpen, cX10_isOpen, 4, (some .boolean))
abbrev MX10_word : ZMeth := (yX10_word, cX10_word, 4, (some .boolean))
abbrev MX10_property : ZMeth := (yX10_property, cX10_property, 1, (some .int))
abbrev MX10_readDeclaration : ZMeth := (yX10_readDeclaration, cX10_readDeclaration, 3, none)
abbrev MX10_readRule : ZMeth := (yX10_readRule, cX10_readRule, 2, (some .boolean))
abbrev MX10_move : ZMeth := (yX10_move, cX10_move, 4, none)
abbrev MX10_rule : ZMeth := (yX10_rule, cX10_rule, 3, (some .int))
abbrev MX10_drop : ZMeth := (yX10_drop, cX10_drop, 3, none)
abbrev MX10_isLast : ZMeth := (yX10_isLast, cX10_isLast, 2, (some .boolean))
abbrev MX10_holds : ZMeth := (yX10_holds, cX10_holds, 4, (some .boolean))
abbrev MX10_fits : ZMeth := (yX10_fits, cX10_fits, 6, (some .boolean))
abbrev MX10_fitting : ZMeth := (yX10_fitting, cX10_fitting, 4, (some .int))
abbrev MX10_linked : ZMeth := (yX10_linked, cX10_linked, 8, (some .int))
abbrev MX10_heavy : ZMeth := (yX10_heavy, cX10_heavy, 1, (some .int))
abbrev MX10_heaviest : ZMeth := (yX10_heaviest, cX10_heaviest, 8, (some .int))
abbrev MX10_matches : ZMeth := (yX10_matches, cX10_matches, 3, (some .boolean))
abbrev MX10_weight : ZMeth := (yX10_weight, cX10_weight, 3, (some .int))
abbrev MX10_survey : ZMeth := (yX10_survey, cX10_survey, 3, none)
abbrev MX10_rank : ZMeth := (yX10_rank, cX10_rank, 2, (some .int))
abbrev MX10_winnerOf : ZMeth := (yX10_winnerOf, cX10_winnerOf, 9, (some .int))
abbrev MX10_winner : ZMeth := (yX10_winner, cX10_winner, 4, (some .int))
abbrev MX10_wantsPlain : ZMeth := (yX10_wantsPlain, cX10_wantsPlain, 1, (some .boolean))
abbrev MX10_push : ZMeth := (yX10_push, cX10_push, 3, none)
abbrev MX10_fontOf : ZMeth := (yX10_fontOf, cX10_fontOf, 3, (some .float))
abbrev MX10_beginSum : ZMeth := (yX10_beginSum, cX10_beginSum, 4, none)
abbrev MX10_lookUp : ZMeth := (yX10_lookUp, cX10_lookUp, 5, none)
abbrev MX10_both : ZMeth := (yX10_both, cX10_both, 8, none)
abbrev MX10_endSum : ZMeth := (yX10_endSum, cX10_endSum, 2, none)
abbrev MX10_work : ZMeth := (yX10_work, cX10_work, 7, (some .boolean))
abbrev MX10_initial : ZMeth := (yX10_initial, cX10_initial, 1, (some .float))
abbrev MX10_handed : ZMeth := (yX10_handed, cX10_handed, 3, (some .float))
abbrev MX10_find : ZMeth := (yX10_find, cX10_find, 7, none)
abbrev MX10_above : ZMeth := (yX10_above, cX10_above, 4, (some .boolean))
abbrev MX10_ask : ZMeth := (yX10_ask, cX10_ask, 4, (some .int))
abbrev MX10_value : ZMeth := (yX10_value, cX10_value, 3, (some .float))
abbrev MX10_how : ZMeth := (yX10_how, cX10_how, 3, (some .int))
abbrev MX10_count : ZMeth := (yX10_count, cX10_count, 2, (some .int))
abbrev MJ6_bitCount_0f7a4 : ZMeth := (yJ6_bitCount_0f7a4, cJ6_bitCount_0f7a4, 1, (some .int))
abbrev MJ9_max_7cf53 : ZMeth := (yJ9_max_7cf53, cJ9_max_7cf53, 2, (some .int))
abbrev MJ9_min_7cf53 : ZMeth := (yJ9_min_7cf53, cJ9_min_7cf53, 2, (some .int))
abbrev MJ0_length_8abf5 : ZMeth := (yJ0_length_8abf5, cJ0_length_8abf5, 1, (some .int))
abbrev MJ0_charAt_5068e : ZMeth := (yJ0_charAt_5068e, cJ0_charAt_5068e, 2, (some .char))
abbrev MJ0_coder_7d493 : ZMeth := (yJ0_coder_7d493, cJ0_coder_7d493, 1, (some .byte))
abbrev MJ0_isLatin1_aae02 : ZMeth := (yJ0_isLatin1_aae02, cJ0_isLatin1_aae02, 1, (some .boolean))
abbrev MJ0_checkIndex_df160 : ZMeth := (yJ0_checkIndex_df160, cJ0_checkIndex_df160, 2, none)
abbrev MJ1_charAt_3b067 : ZMeth := (yJ1_charAt_3b067, cJ1_charAt_3b067, 2, (some .char))
abbrev MJ2_getChar_3b067 : ZMeth := (yJ2_getChar_3b067, cJ2_getChar_3b067, 2, (some .char))
abbrev MJ2_length_9d52b : ZMeth := (yJ2_length_9d52b, cJ2_length_9d52b, 1, (some .int))
abbrev MJ2_charAt_3b067 : ZMeth := (yJ2_charAt_3b067, cJ2_charAt_3b067, 2, (some .char))
abbrev MJ2_checkIndex_2214a : ZMeth := (yJ2_checkIndex_2214a, cJ2_checkIndex_2214a, 2, none)
abbrev MJ7_fill_53178 : ZMeth := (yJ7_fill_53178, cJ7_fill_53178, 4, none)
abbrev MJ7_copyOf_59c91 : ZMeth := (yJ7_copyOf_59c91, cJ7_copyOf_59c91, 3, (some (.array .int)))
abbrev MJ7_copyOf_33ae4 : ZMeth := (yJ7_copyOf_33ae4, cJ7_copyOf_33ae4, 3, (some (.array .float)))
abbrev MJ3_checkIndex_8e157 : ZMeth := (yJ3_checkIndex_8e157, cJ3_checkIndex_8e157, 3, (some .int))
abbrev ML_element : ZMeth := (yL_element, cL_element, 7, (some .int))
abbrev ML_rule : ZMeth := (yL_rule, cL_rule, 4, (some .int))
abbrev ML_drop : ZMeth := (yL_drop, cL_drop, 3, (some .int))
abbrev ML_matches : ZMeth := (yL_matches, cL_matches, 4, (some .int))
abbrev ML_weight : ZMeth := (yL_weight, cL_weight, 5, (some .int))
abbrev ML_winner : ZMeth := (yL_winner, cL_winner, 5, (some .int))
abbrev ML_value : ZMeth := (yL_value, cL_value, 5, (some .int))
abbrev ML_how : ZMeth := (yL_how, cL_how, 5, (some .int))
theorem tw_112 : Cond.classLink RL 8 (zC 9).1 ∈ zWs := zWs_mem (List.mem_of_getElem? (i := 112) (by decide +kernel)) rfl
theorem tw_113 : Cond.instantiable (zC 9).1 (zC 9).2.2 ∈ zWs := zWs_mem (List.mem_of_getElem? (i := 113) (by decide +kernel)) rfl
theorem tw_87 : Cond.initialized (zC 9).1 ∈ zWs := zWs_mem (List.mem_of_getElem? (i := 87) (by decide +kernel)) rfl
theorem lnL_8 : ZNW RL 8 9 := ⟨by decide, tw_112, tw_113, tw_87⟩
theorem tw_120 : Cond.classLink RX9 9 (zC 2).1 ∈ zWs := zWs_mem (List.mem_of_getElem? (i := 120) (by decide +kernel)) rfl
theorem tw_328 : Cond.instantiable (zC 2).1 (zC 2).2.2 ∈ zWs := zWs_mem (List.mem_of_getElem? (i := 328) (by decide +kernel)) rfl
theorem tw_96 : Cond.initialized (zC 2).1 ∈ zWs := zWs_mem (List.mem_of_getElem? (i := 96) (by decide +kernel)) rfl
theorem lnX9_9 : ZNW RX9 9 2 := ⟨by decide, tw_120, tw_328, tw_96⟩
theorem tw_122 : Cond.classLink RX9 19 (zC 5).1 ∈ zWs := zWs_mem (List.mem_of_getElem? (i := 122) (by decide +kernel)) rfl
theorem tw_723 : Cond.instantiable (zC 5).1 (zC 5).2.2 ∈ zWs := zWs_mem (List.mem_of_getElem? (i := 723) (by decide +kernel)) rfl
theorem tw_110 : Cond.initialized (zC 5).1 ∈ zWs := zWs_mem (List.mem_of_getElem? (i := 110) (by decide +kernel)) rfl
theorem lnX9_19 : ZNW RX9 19 5 := ⟨by decide, tw_122, tw_723, tw_110⟩
theorem tw_124 : Cond.classLink RX9 28 (zC 8).1 ∈ zWs := zWs_mem (List.mem_of_getElem? (i := 124) (by decide +kernel)) rfl
theorem tw_125 : Cond.instantiable (zC 8).1 (zC 8).2.2 ∈ zWs := zWs_mem (List.mem_of_getElem? (i := 125) (by decide +kernel)) rfl
theorem tw_88 : Cond.initialized (zC 8).1 ∈ zWs := zWs_mem (List.mem_of_getElem? (i := 88) (by decide +kernel)) rfl
theorem lnX9_28 : ZNW RX9 28 8 := ⟨by decide, tw_124, tw_125, tw_88⟩
theorem tw_130 : Cond.fieldLink RX8 9 (zC 8).1 ((zC 8).2.1 0).2.1 ((zC 8).2.1 0).2.2.1 ∈ zWs := zWs_mem (List.mem_of_getElem? (i := 130) (by decide +kernel)) rfl
theorem lfX8_9 : ZFL RX8 9 8 0 := ⟨by decide, by decide, tw_130⟩
theorem tw_131 : Cond.fieldLink RX8 15 (zC 8).1 ((zC 8).2.1 1).2.1 ((zC 8).2.1 1).2.2.1 ∈ zWs := zWs_mem (List.mem_of_getElem? (i := 131) (by decide +kernel)) rfl
theorem lfX8_15 : ZFL RX8 15 8 1 := ⟨by decide, by decide, tw_131⟩
theorem tw_132 : Cond.fieldLink RX8 19 (zC 8).1 ((zC 8).2.1 2).2.1 ((zC 8).2.1 2).2.2.1 ∈ zWs := zWs_mem (List.mem_of_getElem? (i := 132) (by decide +kernel)) rfl
theorem lfX8_19 : ZFL RX8 19 8 2 := ⟨by decide, by decide, tw_132⟩
theorem tw_133 : Cond.fieldLink RX8 22 (zC 8).1 ((zC 8).2.1 3).2.1 ((zC 8).2.1 3).2.2.1 ∈ zWs := zWs_mem (List.mem_of_getElem? (i := 133) (by decide +kernel)) rfl
theorem lfX8_22 : ZFL RX8 22 8 3 := ⟨by decide, by decide, tw_133⟩
theorem tw_134 : Cond.fieldLink RX8 25 (zC 8).1 ((zC 8).2.1 4).2.1 ((zC 8).2.1 4).2.2.1 ∈ zWs := zWs_mem (List.mem_of_getElem? (i := 134) (by decide +kernel)) rfl
theorem lfX8_25 : ZFL RX8 25 8 4 := ⟨by decide, by decide, tw_134⟩
theorem tw_135 : Cond.fieldLink RX8 29 (zC 8).1 ((zC 8).2.1 5).2.1 ((zC 8).2.1 5).2.2.1 ∈ zWs := zWs_mem (List.mem_of_getElem? (i := 135) (by decide +kernel)) rfl
theorem lfX8_29 : ZFL RX8 29 8 5 := ⟨by decide, by decide, tw_135⟩
theorem tw_136 : Cond.fieldLink RX8 33 (zC 8).1 ((zC 8).2.1 6).2.1 ((zC 8).2.1 6).2.2.1 ∈ zWs := zWs_mem (List.mem_of_getElem? (i := 136) (by decide +kernel)) rfl
theorem lfX8_33 : ZFL RX8 33 8 6 := ⟨by decide, by decide, tw_136⟩
theorem tw_155 : Cond.classLink RX9 35 (zC 4).1 ∈ zWs := zWs_mem (List.mem_of_getElem? (i := 155) (by decide +kernel)) rfl
theorem tw_156 : Cond.instantiable (zC 4).1 (zC 4).2.2 ∈ zWs := zWs_mem (List.mem_of_getElem? (i := 156) (by decide +kernel)) rfl
theorem tw_89 : Cond.initialized (zC 4).1 ∈ zWs := zWs_mem (List.mem_of_getElem? (i := 89) (by decide +kernel)) rfl
theorem lnX9_35 : ZNW RX9 35 4 := ⟨by decide, tw_155, tw_156, tw_89⟩
theorem tw_161 : Cond.classLink RX4 9 (zC 2).1 ∈ zWs := zWs_mem (List.mem_of_getElem? (i := 161) (by decide +kernel)) rfl
theorem lnX4_9 : ZNW RX4 9 2 := ⟨by decide, tw_161, tw_328, tw_96⟩
theorem tw_162 : Cond.fieldLink RX4 11 (zC 4).1 ((zC 4).2.1 0).2.1 ((zC 4).2.1 0).2.2.1 ∈ zWs := zWs_mem (List.mem_of_getElem? (i := 162) (by decide +kernel)) rfl
theorem lfX4_11 : ZFL RX4 11 4 0 := ⟨by decide, by decide, tw_162⟩
theorem tw_163 : Cond.fieldLink RX4 69 (zC 4).1 ((zC 4).2.1 1).2.1 ((zC 4).2.1 1).2.2.1 ∈ zWs := zWs_mem (List.mem_of_getElem? (i := 163) (by decide +kernel)) rfl
theorem lfX4_69 : ZFL RX4 69 4 1 := ⟨by decide, by decide, tw_163⟩
theorem tw_164 : Cond.fieldLink RX4 76 (zC 4).1 ((zC 4).2.1 2).2.1 ((zC 4).2.1 2).2.2.1 ∈ zWs := zWs_mem (List.mem_of_getElem? (i := 164) (by decide +kernel)) rfl
theorem lfX4_76 : ZFL RX4 76 4 2 := ⟨by decide, by decide, tw_164⟩
theorem tw_165 : Cond.fieldLink RX4 72 (zC 4).1 ((zC 4).2.1 3).2.1 ((zC 4).2.1 3).2.2.1 ∈ zWs := zWs_mem (List.mem_of_getElem? (i := 165) (by decide +kernel)) rfl
theorem lfX4_72 : ZFL RX4 72 4 3 := ⟨by decide, by decide, tw_165⟩
theorem tw_166 : Cond.fieldLink RX4 17 (zC 4).1 ((zC 4).2.1 4).2.1 ((zC 4).2.1 4).2.2.1 ∈ zWs := zWs_mem (List.mem_of_getElem? (i := 166) (by decide +kernel)) rfl
theorem lfX4_17 : ZFL RX4 17 4 4 := ⟨by decide, by decide, tw_166⟩
theorem tw_167 : Cond.fieldLink RX4 21 (zC 4).1 ((zC 4).2.1 5).2.1 ((zC 4).2.1 5).2.2.1 ∈ zWs := zWs_mem (List.mem_of_getElem? (i := 167) (by decide +kernel)) rfl
theorem lfX4_21 : ZFL RX4 21 4 5 := ⟨by decide, by decide, tw_167⟩
theorem tw_168 : Cond.fieldLink RX4 98 (zC 4).1 ((zC 4).2.1 6).2.1 ((zC 4).2.1 6).2.2.1 ∈ zWs := zWs_mem (List.mem_of_getElem? (i := 168) (by decide +kernel)) rfl
theorem lfX4_98 : ZFL RX4 98 4 6 := ⟨by decide, by decide, tw_168⟩
theorem tw_169 : Cond.fieldLink RX4 25 (zC 4).1 ((zC 4).2.1 7).2.1 ((zC 4).2.1 7).2.2.1 ∈ zWs := zWs_mem (List.mem_of_getElem? (i := 169) (by decide +kernel)) rfl
theorem lfX4_25 : ZFL RX4 25 4 7 := ⟨by decide, by decide, tw_169⟩
theorem tw_170 : Cond.fieldLink RX4 28 (zC 4).1 ((zC 4).2.1 8).2.1 ((zC 4).2.1 8).2.2.1 ∈ zWs := zWs_mem (List.mem_of_getElem? (i := 170) (by decide +kernel)) rfl
theorem lfX4_28 : ZFL RX4 28 4 8 := ⟨by decide, by decide, tw_170⟩
theorem tw_171 : Cond.fieldLink RX4 88 (zC 4).1 ((zC 4).2.1 9).2.1 ((zC 4).2.1 9).2.2.1 ∈ zWs := zWs_mem (List.mem_of_getElem? (i := 171) (by decide +kernel)) rfl
theorem lfX4_88 : ZFL RX4 88 4 9 := ⟨by decide, by decide, tw_171⟩
theorem tw_193 : Cond.fieldLink RX9 11 (zC 9).1 ((zC 9).2.1 0).2.1 ((zC 9).2.1 0).2.2.1 ∈ zWs := zWs_mem (List.mem_of_getElem? (i := 193) (by decide +kernel)) rfl
theorem lfX9_11 : ZFL RX9 11 9 0 := ⟨by decide, by decide, tw_193⟩
theorem tw_194 : Cond.fieldLink RX9 15 (zC 9).1 ((zC 9).2.1 1).2.1 ((zC 9).2.1 1).2.2.1 ∈ zWs := zWs_mem (List.mem_of_getElem? (i := 194) (by decide +kernel)) rfl
theorem lfX9_15 : ZFL RX9 15 9 1 := ⟨by decide, by decide, tw_194⟩
theorem tw_195 : Cond.fieldLink RX9 21 (zC 9).1 ((zC 9).2.1 2).2.1 ((zC 9).2.1 2).2.2.1 ∈ zWs := zWs_mem (List.mem_of_getElem? (i := 195) (by decide +kernel)) rfl
theorem lfX9_21 : ZFL RX9 21 9 2 := ⟨by decide, by decide, tw_195⟩
theorem tw_196 : Cond.fieldLink RX9 25 (zC 9).1 ((zC 9).2.1 3).2.1 ((zC 9).2.1 3).2.2.1 ∈ zWs := zWs_mem (List.mem_of_getElem? (i := 196) (by decide +kernel)) rfl
theorem lfX9_25 : ZFL RX9 25 9 3 := ⟨by decide, by decide, tw_196⟩
theorem tw_197 : Cond.fieldLink RX9 31 (zC 9).1 ((zC 9).2.1 4).2.1 ((zC 9).2.1 4).2.2.1 ∈ zWs := zWs_mem (List.mem_of_getElem? (i := 197) (by decide +kernel)) rfl
theorem lfX9_31 : ZFL RX9 31 9 4 := ⟨by decide, by decide, tw_197⟩
theorem tw_198 : Cond.fieldLink RX9 38 (zC 9).1 ((zC 9).2.1 5).2.1 ((zC 9).2.1 5).2.2.1 ∈ zWs := zWs_mem (List.mem_of_getElem? (i := 198) (by decide +kernel)) rfl
theorem lfX9_38 : ZFL RX9 38 9 5 := ⟨by decide, by decide, tw_198⟩
theorem tw_199 : Cond.fieldLink RX9 42 (zC 9).1 ((zC 9).2.1 6).2.1 ((zC 9).2.1 6).2.2.1 ∈ zWs := zWs_mem (List.mem_of_getElem? (i := 199) (by decide +kernel)) rfl
theorem lfX9_42 : ZFL RX9 42 9 6 := ⟨by decide, by decide, tw_199⟩
theorem tw_339 : Cond.classLink RX2 50 (zC 7).1 ∈ zWs := zWs_mem (List.mem_of_getElem? (i := 339) (by decide +kernel)) rfl
theorem tw_340 : Cond.instantiable (zC 7).1 (zC 7).2.2 ∈ zWs := zWs_mem (List.mem_of_getElem? (i := 340) (by decide +kernel)) rfl
theorem tw_98 : Cond.initialized (zC 7).1 ∈ zWs := zWs_mem (List.mem_of_getElem? (i := 98) (by decide +kernel)) rfl
theorem lnX2_50 : ZNW RX2 50 7 := ⟨by decide, tw_339, tw_340, tw_98⟩
theorem tw_345 : Cond.classLink RX7 9 (zC 1).1 ∈ zWs := zWs_mem (List.mem_of_getElem? (i := 345) (by decide +kernel)) rfl
theorem tw_663 : Cond.instantiable (zC 1).1 (zC 1).2.2 ∈ zWs := zWs_mem (List.mem_of_getElem? (i := 663) (by decide +kernel)) rfl
theorem tw_106 : Cond.initialized (zC 1).1 ∈ zWs := zWs_mem (List.mem_of_getElem? (i := 106) (by decide +kernel)) rfl
theorem lnX7_9 : ZNW RX7 9 1 := ⟨by decide, tw_345, tw_663, tw_106⟩
theorem tw_347 : Cond.fieldLink RX7 11 (zC 7).1 ((zC 7).2.1 0).2.1 ((zC 7).2.1 0).2.2.1 ∈ zWs := zWs_mem (List.mem_of_getElem? (i := 347) (by decide +kernel)) rfl
theorem lfX7_11 : ZFL RX7 11 7 0 := ⟨by decide, by decide, tw_347⟩
theorem tw_348 : Cond.fieldLink RX4 48 (zC 7).1 ((zC 7).2.1 0).2.1 ((zC 7).2.1 0).2.2.1 ∈ zWs := zWs_mem (List.mem_of_getElem? (i := 348) (by decide +kernel)) rfl
theorem lfX4_48 : ZFL RX4 48 7 0 := ⟨by decide, by decide, tw_348⟩
theorem tw_349 : Cond.fieldLink RX7 17 (zC 7).1 ((zC 7).2.1 1).2.1 ((zC 7).2.1 1).2.2.1 ∈ zWs := zWs_mem (List.mem_of_getElem? (i := 349) (by decide +kernel)) rfl
theorem lfX7_17 : ZFL RX7 17 7 1 := ⟨by decide, by decide, tw_349⟩
theorem tw_350 : Cond.fieldLink RX7 21 (zC 7).1 ((zC 7).2.1 2).2.1 ((zC 7).2.1 2).2.2.1 ∈ zWs := zWs_mem (List.mem_of_getElem? (i := 350) (by decide +kernel)) rfl
theorem lfX7_21 : ZFL RX7 21 7 2 := ⟨by decide, by decide, tw_350⟩
theorem tw_351 : Cond.fieldLink RX7 24 (zC 7).1 ((zC 7).2.1 3).2.1 ((zC 7).2.1 3).2.2.1 ∈ zWs := zWs_mem (List.mem_of_getElem? (i := 351) (by decide +kernel)) rfl
theorem lfX7_24 : ZFL RX7 24 7 3 := ⟨by decide, by decide, tw_351⟩
theorem tw_352 : Cond.fieldLink RX4 53 (zC 7).1 ((zC 7).2.1 3).2.1 ((zC 7).2.1 3).2.2.1 ∈ zWs := zWs_mem (List.mem_of_getElem? (i := 352) (by decide +kernel)) rfl
theorem lfX4_53 : ZFL RX4 53 7 3 := ⟨by decide, by decide, tw_352⟩
theorem tw_353 : Cond.fieldLink RX9 134 (zC 7).1 ((zC 7).2.1 3).2.1 ((zC 7).2.1 3).2.2.1 ∈ zWs := zWs_mem (List.mem_of_getElem? (i := 353) (by decide +kernel)) rfl
theorem lfX9_134 : ZFL RX9 134 7 3 := ⟨by decide, by decide, tw_353⟩
theorem tw_354 : Cond.fieldLink RX7 28 (zC 7).1 ((zC 7).2.1 4).2.1 ((zC 7).2.1 4).2.2.1 ∈ zWs := zWs_mem (List.mem_of_getElem? (i := 354) (by decide +kernel)) rfl
theorem lfX7_28 : ZFL RX7 28 7 4 := ⟨by decide, by decide, tw_354⟩
theorem tw_355 : Cond.fieldLink RX4 43 (zC 7).1 ((zC 7).2.1 4).2.1 ((zC 7).2.1 4).2.2.1 ∈ zWs := zWs_mem (List.mem_of_getElem? (i := 355) (by decide +kernel)) rfl
theorem lfX4_43 : ZFL RX4 43 7 4 := ⟨by decide, by decide, tw_355⟩
theorem tw_356 : Cond.fieldLink RX9 138 (zC 7).1 ((zC 7).2.1 4).2.1 ((zC 7).2.1 4).2.2.1 ∈ zWs := zWs_mem (List.mem_of_getElem? (i := 356) (by decide +kernel)) rfl
theorem lfX9_138 : ZFL RX9 138 7 4 := ⟨by decide, by decide, tw_356⟩
theorem tw_357 : Cond.fieldLink RX7 31 (zC 7).1 ((zC 7).2.1 5).2.1 ((zC 7).2.1 5).2.2.1 ∈ zWs := zWs_mem (List.mem_of_getElem? (i := 357) (by decide +kernel)) rfl
theorem lfX7_31 : ZFL RX7 31 7 5 := ⟨by decide, by decide, tw_357⟩
theorem tw_358 : Cond.fieldLink RX4 79 (zC 7).1 ((zC 7).2.1 5).2.1 ((zC 7).2.1 5).2.2.1 ∈ zWs := zWs_mem (List.mem_of_getElem? (i := 358) (by decide +kernel)) rfl
theorem lfX4_79 : ZFL RX4 79 7 5 := ⟨by decide, by decide, tw_358⟩
theorem tw_359 : Cond.fieldLink RX7 34 (zC 7).1 ((zC 7).2.1 6).2.1 ((zC 7).2.1 6).2.2.1 ∈ zWs := zWs_mem (List.mem_of_getElem? (i := 359) (by decide +kernel)) rfl
theorem lfX7_34 : ZFL RX7 34 7 6 := ⟨by decide, by decide, tw_359⟩
theorem tw_360 : Cond.fieldLink RX4 95 (zC 7).1 ((zC 7).2.1 6).2.1 ((zC 7).2.1 6).2.2.1 ∈ zWs := zWs_mem (List.mem_of_getElem? (i := 360) (by decide +kernel)) rfl
theorem lfX4_95 : ZFL RX4 95 7 6 := ⟨by decide, by decide, tw_360⟩
theorem tw_376 : Cond.fieldLink RX2 7 (zC 2).1 ((zC 2).2.1 0).2.1 ((zC 2).2.1 0).2.2.1 ∈ zWs := zWs_mem (List.mem_of_getElem? (i := 376) (by decide +kernel)) rfl
theorem lfX2_7 : ZFL RX2 7 2 0 := ⟨by decide, by decide, tw_376⟩
theorem tw_377 : Cond.fieldLink RX4 31 (zC 2).1 ((zC 2).2.1 0).2.1 ((zC 2).2.1 0).2.2.1 ∈ zWs := zWs_mem (List.mem_of_getElem? (i := 377) (by decide +kernel)) rfl
theorem lfX4_31 : ZFL RX4 31 2 0 := ⟨by decide, by decide, tw_377⟩
theorem tw_378 : Cond.fieldLink RX2 13 (zC 2).1 ((zC 2).2.1 1).2.1 ((zC 2).2.1 1).2.2.1 ∈ zWs := zWs_mem (List.mem_of_getElem? (i := 378) (by decide +kernel)) rfl
theorem lfX2_13 : ZFL RX2 13 2 1 := ⟨by decide, by decide, tw_378⟩
theorem tw_379 : Cond.fieldLink RX0 41 (zC 2).1 ((zC 2).2.1 1).2.1 ((zC 2).2.1 1).2.2.1 ∈ zWs := zWs_mem (List.mem_of_getElem? (i := 379) (by decide +kernel)) rfl
theorem lfX0_41 : ZFL RX0 41 2 1 := ⟨by decide, by decide, tw_379⟩
theorem tw_380 : Cond.fieldLink RX2 17 (zC 2).1 ((zC 2).2.1 2).2.1 ((zC 2).2.1 2).2.2.1 ∈ zWs := zWs_mem (List.mem_of_getElem? (i := 380) (by decide +kernel)) rfl
theorem lfX2_17 : ZFL RX2 17 2 2 := ⟨by decide, by decide, tw_380⟩
theorem tw_381 : Cond.fieldLink RX3 23 (zC 2).1 ((zC 2).2.1 2).2.1 ((zC 2).2.1 2).2.2.1 ∈ zWs := zWs_mem (List.mem_of_getElem? (i := 381) (by decide +kernel)) rfl
theorem lfX3_23 : ZFL RX3 23 2 2 := ⟨by decide, by decide, tw_381⟩
theorem tw_382 : Cond.fieldLink RX2 20 (zC 2).1 ((zC 2).2.1 3).2.1 ((zC 2).2.1 3).2.2.1 ∈ zWs := zWs_mem (List.mem_of_getElem? (i := 382) (by decide +kernel)) rfl
theorem lfX2_20 : ZFL RX2 20 2 3 := ⟨by decide, by decide, tw_382⟩
theorem tw_383 : Cond.fieldLink RX3 28 (zC 2).1 ((zC 2).2.1 3).2.1 ((zC 2).2.1 3).2.2.1 ∈ zWs := zWs_mem (List.mem_of_getElem? (i := 383) (by decide +kernel)) rfl
theorem lfX3_28 : ZFL RX3 28 2 3 := ⟨by decide, by decide, tw_383⟩
theorem tw_384 : Cond.fieldLink RX2 23 (zC 2).1 ((zC 2).2.1 4).2.1 ((zC 2).2.1 4).2.2.1 ∈ zWs := zWs_mem (List.mem_of_getElem? (i := 384) (by decide +kernel)) rfl
theorem lfX2_23 : ZFL RX2 23 2 4 := ⟨by decide, by decide, tw_384⟩
theorem tw_385 : Cond.fieldLink RX6 39 (zC 2).1 ((zC 2).2.1 4).2.1 ((zC 2).2.1 4).2.2.1 ∈ zWs := zWs_mem (List.mem_of_getElem? (i := 385) (by decide +kernel)) rfl
theorem lfX6_39 : ZFL RX6 39 2 4 := ⟨by decide, by decide, tw_385⟩
theorem tw_386 : Cond.fieldLink RX9 62 (zC 2).1 ((zC 2).2.1 4).2.1 ((zC 2).2.1 4).2.2.1 ∈ zWs := zWs_mem (List.mem_of_getElem? (i := 386) (by decide +kernel)) rfl
theorem lfX9_62 : ZFL RX9 62 2 4 := ⟨by decide, by decide, tw_386⟩
theorem tw_387 : Cond.fieldLink RX2 26 (zC 2).1 ((zC 2).2.1 5).2.1 ((zC 2).2.1 5).2.2.1 ∈ zWs := zWs_mem (List.mem_of_getElem? (i := 387) (by decide +kernel)) rfl
theorem lfX2_26 : ZFL RX2 26 2 5 := ⟨by decide, by decide, tw_387⟩
theorem tw_388 : Cond.fieldLink RX2 32 (zC 2).1 ((zC 2).2.1 6).2.1 ((zC 2).2.1 6).2.2.1 ∈ zWs := zWs_mem (List.mem_of_getElem? (i := 388) (by decide +kernel)) rfl
theorem lfX2_32 : ZFL RX2 32 2 6 := ⟨by decide, by decide, tw_388⟩
theorem tw_389 : Cond.fieldLink RX2 38 (zC 2).1 ((zC 2).2.1 7).2.1 ((zC 2).2.1 7).2.2.1 ∈ zWs := zWs_mem (List.mem_of_getElem? (i := 389) (by decide +kernel)) rfl
theorem lfX2_38 : ZFL RX2 38 2 7 := ⟨by decide, by decide, tw_389⟩
theorem tw_390 : Cond.fieldLink RX2 47 (zC 2).1 ((zC 2).2.1 8).2.1 ((zC 2).2.1 8).2.2.1 ∈ zWs := zWs_mem (List.mem_of_getElem? (i := 390) (by decide +kernel)) rfl
theorem lfX2_47 : ZFL RX2 47 2 8 := ⟨by decide, by decide, tw_390⟩
theorem tw_391 : Cond.fieldLink RX3 35 (zC 2).1 ((zC 2).2.1 8).2.1 ((zC 2).2.1 8).2.2.1 ∈ zWs := zWs_mem (List.mem_of_getElem? (i := 391) (by decide +kernel)) rfl
theorem lfX3_35 : ZFL RX3 35 2 8 := ⟨by decide, by decide, tw_391⟩
theorem tw_392 : Cond.fieldLink RX2 53 (zC 2).1 ((zC 2).2.1 9).2.1 ((zC 2).2.1 9).2.2.1 ∈ zWs := zWs_mem (List.mem_of_getElem? (i := 392) (by decide +kernel)) rfl
theorem lfX2_53 : ZFL RX2 53 2 9 := ⟨by decide, by decide, tw_392⟩
theorem tw_393 : Cond.fieldLink RX4 39 (zC 2).1 ((zC 2).2.1 9).2.1 ((zC 2).2.1 9).2.2.1 ∈ zWs := zWs_mem (List.mem_of_getElem? (i := 393) (by decide +kernel)) rfl
theorem lfX4_39 : ZFL RX4 39 2 9 := ⟨by decide, by decide, tw_393⟩
theorem tw_394 : Cond.fieldLink RX9 121 (zC 2).1 ((zC 2).2.1 9).2.1 ((zC 2).2.1 9).2.2.1 ∈ zWs := zWs_mem (List.mem_of_getElem? (i := 394) (by decide +kernel)) rfl
theorem lfX9_121 : ZFL RX9 121 2 9 := ⟨by decide, by decide, tw_394⟩
theorem tw_395 : Cond.fieldLink RX2 29 (zC 2).1 ((zC 2).2.1 10).2.1 ((zC 2).2.1 10).2.2.1 ∈ zWs := zWs_mem (List.mem_of_getElem? (i := 395) (by decide +kernel)) rfl
theorem lfX2_29 : ZFL RX2 29 2 10 := ⟨by decide, by decide, tw_395⟩
theorem tw_396 : Cond.fieldLink RX2 35 (zC 2).1 ((zC 2).2.1 11).2.1 ((zC 2).2.1 11).2.2.1 ∈ zWs := zWs_mem (List.mem_of_getElem? (i := 396) (by decide +kernel)) rfl
theorem lfX2_35 : ZFL RX2 35 2 11 := ⟨by decide, by decide, tw_396⟩
theorem tw_454 : Cond.classLink RX8 59 (zC 0).1 ∈ zWs := zWs_mem (List.mem_of_getElem? (i := 454) (by decide +kernel)) rfl
theorem tw_455 : Cond.instantiable (zC 0).1 (zC 0).2.2 ∈ zWs := zWs_mem (List.mem_of_getElem? (i := 455) (by decide +kernel)) rfl
theorem tw_99 : Cond.initialized (zC 0).1 ∈ zWs := zWs_mem (List.mem_of_getElem? (i := 99) (by decide +kernel)) rfl
theorem lnX8_59 : ZNW RX8 59 0 := ⟨by decide, tw_454, tw_455, tw_99⟩
theorem tw_460 : Cond.fieldLink RX0 7 (zC 0).1 ((zC 0).2.1 0).2.1 ((zC 0).2.1 0).2.2.1 ∈ zWs := zWs_mem (List.mem_of_getElem? (i := 460) (by decide +kernel)) rfl
theorem lfX0_7 : ZFL RX0 7 0 0 := ⟨by decide, by decide, tw_460⟩
theorem tw_461 : Cond.fieldLink RX0 13 (zC 0).1 ((zC 0).2.1 1).2.1 ((zC 0).2.1 1).2.2.1 ∈ zWs := zWs_mem (List.mem_of_getElem? (i := 461) (by decide +kernel)) rfl
theorem lfX0_13 : ZFL RX0 13 0 1 := ⟨by decide, by decide, tw_461⟩
theorem tw_462 : Cond.fieldLink RX0 17 (zC 0).1 ((zC 0).2.1 2).2.1 ((zC 0).2.1 2).2.2.1 ∈ zWs := zWs_mem (List.mem_of_getElem? (i := 462) (by decide +kernel)) rfl
theorem lfX0_17 : ZFL RX0 17 0 2 := ⟨by decide, by decide, tw_462⟩
theorem tw_463 : Cond.fieldLink RX0 21 (zC 0).1 ((zC 0).2.1 3).2.1 ((zC 0).2.1 3).2.2.1 ∈ zWs := zWs_mem (List.mem_of_getElem? (i := 463) (by decide +kernel)) rfl
theorem lfX0_21 : ZFL RX0 21 0 3 := ⟨by decide, by decide, tw_463⟩
theorem tw_464 : Cond.fieldLink RX8 58 (zC 0).1 ((zC 0).2.1 3).2.1 ((zC 0).2.1 3).2.2.1 ∈ zWs := zWs_mem (List.mem_of_getElem? (i := 464) (by decide +kernel)) rfl
theorem lfX8_58 : ZFL RX8 58 0 3 := ⟨by decide, by decide, tw_464⟩
theorem tw_465 : Cond.fieldLink RX0 24 (zC 0).1 ((zC 0).2.1 4).2.1 ((zC 0).2.1 4).2.2.1 ∈ zWs := zWs_mem (List.mem_of_getElem? (i := 465) (by decide +kernel)) rfl
theorem lfX0_24 : ZFL RX0 24 0 4 := ⟨by decide, by decide, tw_465⟩
theorem tw_466 : Cond.fieldLink RX6 24 (zC 0).1 ((zC 0).2.1 4).2.1 ((zC 0).2.1 4).2.2.1 ∈ zWs := zWs_mem (List.mem_of_getElem? (i := 466) (by decide +kernel)) rfl
theorem lfX6_24 : ZFL RX6 24 0 4 := ⟨by decide, by decide, tw_466⟩
theorem tw_467 : Cond.fieldLink RX8 73 (zC 0).1 ((zC 0).2.1 4).2.1 ((zC 0).2.1 4).2.2.1 ∈ zWs := zWs_mem (List.mem_of_getElem? (i := 467) (by decide +kernel)) rfl
theorem lfX8_73 : ZFL RX8 73 0 4 := ⟨by decide, by decide, tw_467⟩
theorem tw_468 : Cond.fieldLink RX0 27 (zC 0).1 ((zC 0).2.1 5).2.1 ((zC 0).2.1 5).2.2.1 ∈ zWs := zWs_mem (List.mem_of_getElem? (i := 468) (by decide +kernel)) rfl
theorem lfX0_27 : ZFL RX0 27 0 5 := ⟨by decide, by decide, tw_468⟩
theorem tw_469 : Cond.fieldLink RX6 42 (zC 0).1 ((zC 0).2.1 5).2.1 ((zC 0).2.1 5).2.2.1 ∈ zWs := zWs_mem (List.mem_of_getElem? (i := 469) (by decide +kernel)) rfl
theorem lfX6_42 : ZFL RX6 42 0 5 := ⟨by decide, by decide, tw_469⟩
theorem tw_470 : Cond.fieldLink RX8 76 (zC 0).1 ((zC 0).2.1 5).2.1 ((zC 0).2.1 5).2.2.1 ∈ zWs := zWs_mem (List.mem_of_getElem? (i := 470) (by decide +kernel)) rfl
theorem lfX8_76 : ZFL RX8 76 0 5 := ⟨by decide, by decide, tw_470⟩
theorem tw_495 : Cond.classLink RX8 95 (zC 3).1 ∈ zWs := zWs_mem (List.mem_of_getElem? (i := 495) (by decide +kernel)) rfl
theorem tw_496 : Cond.instantiable (zC 3).1 (zC 3).2.2 ∈ zWs := zWs_mem (List.mem_of_getElem? (i := 496) (by decide +kernel)) rfl
theorem tw_100 : Cond.initialized (zC 3).1 ∈ zWs := zWs_mem (List.mem_of_getElem? (i := 100) (by decide +kernel)) rfl
theorem lnX8_95 : ZNW RX8 95 3 := ⟨by decide, tw_495, tw_496, tw_100⟩
theorem tw_501 : Cond.fieldLink RX3 7 (zC 3).1 ((zC 3).2.1 0).2.1 ((zC 3).2.1 0).2.2.1 ∈ zWs := zWs_mem (List.mem_of_getElem? (i := 501) (by decide +kernel)) rfl
theorem lfX3_7 : ZFL RX3 7 3 0 := ⟨by decide, by decide, tw_501⟩
theorem tw_502 : Cond.fieldLink RX0 34 (zC 3).1 ((zC 3).2.1 0).2.1 ((zC 3).2.1 0).2.2.1 ∈ zWs := zWs_mem (List.mem_of_getElem? (i := 502) (by decide +kernel)) rfl
theorem lfX0_34 : ZFL RX0 34 3 0 := ⟨by decide, by decide, tw_502⟩
theorem tw_503 : Cond.fieldLink RX3 13 (zC 3).1 ((zC 3).2.1 1).2.1 ((zC 3).2.1 1).2.2.1 ∈ zWs := zWs_mem (List.mem_of_getElem? (i := 503) (by decide +kernel)) rfl
theorem lfX3_13 : ZFL RX3 13 3 1 := ⟨by decide, by decide, tw_503⟩
theorem tw_504 : Cond.fieldLink RX3 16 (zC 3).1 ((zC 3).2.1 2).2.1 ((zC 3).2.1 2).2.2.1 ∈ zWs := zWs_mem (List.mem_of_getElem? (i := 504) (by decide +kernel)) rfl
theorem lfX3_16 : ZFL RX3 16 3 2 := ⟨by decide, by decide, tw_504⟩
theorem tw_505 : Cond.fieldLink RX3 19 (zC 3).1 ((zC 3).2.1 3).2.1 ((zC 3).2.1 3).2.2.1 ∈ zWs := zWs_mem (List.mem_of_getElem? (i := 505) (by decide +kernel)) rfl
theorem lfX3_19 : ZFL RX3 19 3 3 := ⟨by decide, by decide, tw_505⟩
theorem tw_506 : Cond.fieldLink RX0 30 (zC 3).1 ((zC 3).2.1 3).2.1 ((zC 3).2.1 3).2.2.1 ∈ zWs := zWs_mem (List.mem_of_getElem? (i := 506) (by decide +kernel)) rfl
theorem lfX0_30 : ZFL RX0 30 3 3 := ⟨by decide, by decide, tw_506⟩
theorem tw_543 : Cond.classLink RX8 49 (zC 6).1 ∈ zWs := zWs_mem (List.mem_of_getElem? (i := 543) (by decide +kernel)) rfl
theorem tw_544 : Cond.instantiable (zC 6).1 (zC 6).2.2 ∈ zWs := zWs_mem (List.mem_of_getElem? (i := 544) (by decide +kernel)) rfl
theorem tw_101 : Cond.initialized (zC 6).1 ∈ zWs := zWs_mem (List.mem_of_getElem? (i := 101) (by decide +kernel)) rfl
theorem lnX8_49 : ZNW RX8 49 6 := ⟨by decide, tw_543, tw_544, tw_101⟩
theorem tw_549 : Cond.fieldLink RX6 7 (zC 6).1 ((zC 6).2.1 0).2.1 ((zC 6).2.1 0).2.2.1 ∈ zWs := zWs_mem (List.mem_of_getElem? (i := 549) (by decide +kernel)) rfl
theorem lfX6_7 : ZFL RX6 7 6 0 := ⟨by decide, by decide, tw_549⟩
theorem tw_550 : Cond.fieldLink RX6 13 (zC 6).1 ((zC 6).2.1 1).2.1 ((zC 6).2.1 1).2.2.1 ∈ zWs := zWs_mem (List.mem_of_getElem? (i := 550) (by decide +kernel)) rfl
theorem lfX6_13 : ZFL RX6 13 6 1 := ⟨by decide, by decide, tw_550⟩
theorem tw_551 : Cond.fieldLink RX5 32 (zC 6).1 ((zC 6).2.1 1).2.1 ((zC 6).2.1 1).2.2.1 ∈ zWs := zWs_mem (List.mem_of_getElem? (i := 551) (by decide +kernel)) rfl
theorem lfX5_32 : ZFL RX5 32 6 1 := ⟨by decide, by decide, tw_551⟩
theorem tw_552 : Cond.fieldLink RX6 17 (zC 6).1 ((zC 6).2.1 2).2.1 ((zC 6).2.1 2).2.2.1 ∈ zWs := zWs_mem (List.mem_of_getElem? (i := 552) (by decide +kernel)) rfl
theorem lfX6_17 : ZFL RX6 17 6 2 := ⟨by decide, by decide, tw_552⟩
theorem tw_553 : Cond.fieldLink RX5 28 (zC 6).1 ((zC 6).2.1 2).2.1 ((zC 6).2.1 2).2.2.1 ∈ zWs := zWs_mem (List.mem_of_getElem? (i := 553) (by decide +kernel)) rfl
theorem lfX5_28 : ZFL RX5 28 6 2 := ⟨by decide, by decide, tw_553⟩
theorem tw_554 : Cond.fieldLink RX9 103 (zC 6).1 ((zC 6).2.1 2).2.1 ((zC 6).2.1 2).2.2.1 ∈ zWs := zWs_mem (List.mem_of_getElem? (i := 554) (by decide +kernel)) rfl
theorem lfX9_103 : ZFL RX9 103 6 2 := ⟨by decide, by decide, tw_554⟩
theorem tw_555 : Cond.fieldLink RX6 20 (zC 6).1 ((zC 6).2.1 3).2.1 ((zC 6).2.1 3).2.2.1 ∈ zWs := zWs_mem (List.mem_of_getElem? (i := 555) (by decide +kernel)) rfl
theorem lfX6_20 : ZFL RX6 20 6 3 := ⟨by decide, by decide, tw_555⟩
theorem tw_556 : Cond.fieldLink RX5 25 (zC 6).1 ((zC 6).2.1 3).2.1 ((zC 6).2.1 3).2.2.1 ∈ zWs := zWs_mem (List.mem_of_getElem? (i := 556) (by decide +kernel)) rfl
theorem lfX5_25 : ZFL RX5 25 6 3 := ⟨by decide, by decide, tw_556⟩
theorem tw_557 : Cond.fieldLink RX8 48 (zC 6).1 ((zC 6).2.1 3).2.1 ((zC 6).2.1 3).2.2.1 ∈ zWs := zWs_mem (List.mem_of_getElem? (i := 557) (by decide +kernel)) rfl
theorem lfX8_48 : ZFL RX8 48 6 3 := ⟨by decide, by decide, tw_557⟩
theorem tw_558 : Cond.fieldLink RX9 106 (zC 6).1 ((zC 6).2.1 3).2.1 ((zC 6).2.1 3).2.2.1 ∈ zWs := zWs_mem (List.mem_of_getElem? (i := 558) (by decide +kernel)) rfl
theorem lfX9_106 : ZFL RX9 106 6 3 := ⟨by decide, by decide, tw_558⟩
theorem tw_662 : Cond.classLink RX8 124 (zC 1).1 ∈ zWs := zWs_mem (List.mem_of_getElem? (i := 662) (by decide +kernel)) rfl
theorem lnX8_124 : ZNW RX8 124 1 := ⟨by decide, tw_662, tw_663, tw_106⟩
theorem tw_692 : Cond.fieldLink RX1 7 (zC 1).1 ((zC 1).2.1 0).2.1 ((zC 1).2.1 0).2.2.1 ∈ zWs := zWs_mem (List.mem_of_getElem? (i := 692) (by decide +kernel)) rfl
theorem lfX1_7 : ZFL RX1 7 1 0 := ⟨by decide, by decide, tw_692⟩
theorem tw_693 : Cond.fieldLink RX7 43 (zC 1).1 ((zC 1).2.1 0).2.1 ((zC 1).2.1 0).2.2.1 ∈ zWs := zWs_mem (List.mem_of_getElem? (i := 693) (by decide +kernel)) rfl
theorem lfX7_43 : ZFL RX7 43 1 0 := ⟨by decide, by decide, tw_693⟩
theorem tw_694 : Cond.fieldLink RX1 13 (zC 1).1 ((zC 1).2.1 1).2.1 ((zC 1).2.1 1).2.2.1 ∈ zWs := zWs_mem (List.mem_of_getElem? (i := 694) (by decide +kernel)) rfl
theorem lfX1_13 : ZFL RX1 13 1 1 := ⟨by decide, by decide, tw_694⟩
theorem tw_695 : Cond.fieldLink RX4 56 (zC 1).1 ((zC 1).2.1 1).2.1 ((zC 1).2.1 1).2.2.1 ∈ zWs := zWs_mem (List.mem_of_getElem? (i := 695) (by decide +kernel)) rfl
theorem lfX4_56 : ZFL RX4 56 1 1 := ⟨by decide, by decide, tw_695⟩
theorem tw_696 : Cond.fieldLink RX1 16 (zC 1).1 ((zC 1).2.1 2).2.1 ((zC 1).2.1 2).2.2.1 ∈ zWs := zWs_mem (List.mem_of_getElem? (i := 696) (by decide +kernel)) rfl
theorem lfX1_16 : ZFL RX1 16 1 2 := ⟨by decide, by decide, tw_696⟩
theorem tw_697 : Cond.fieldLink RX7 47 (zC 1).1 ((zC 1).2.1 2).2.1 ((zC 1).2.1 2).2.2.1 ∈ zWs := zWs_mem (List.mem_of_getElem? (i := 697) (by decide +kernel)) rfl
theorem lfX7_47 : ZFL RX7 47 1 2 := ⟨by decide, by decide, tw_697⟩
theorem tw_698 : Cond.fieldLink RX1 19 (zC 1).1 ((zC 1).2.1 3).2.1 ((zC 1).2.1 3).2.2.1 ∈ zWs := zWs_mem (List.mem_of_getElem? (i := 698) (by decide +kernel)) rfl
theorem lfX1_19 : ZFL RX1 19 1 3 := ⟨by decide, by decide, tw_698⟩
theorem tw_699 : Cond.fieldLink RX4 101 (zC 1).1 ((zC 1).2.1 3).2.1 ((zC 1).2.1 3).2.2.1 ∈ zWs := zWs_mem (List.mem_of_getElem? (i := 699) (by decide +kernel)) rfl
theorem lfX4_101 : ZFL RX4 101 1 3 := ⟨by decide, by decide, tw_699⟩
theorem tw_700 : Cond.fieldLink RX1 23 (zC 1).1 ((zC 1).2.1 4).2.1 ((zC 1).2.1 4).2.2.1 ∈ zWs := zWs_mem (List.mem_of_getElem? (i := 700) (by decide +kernel)) rfl
theorem lfX1_23 : ZFL RX1 23 1 4 := ⟨by decide, by decide, tw_700⟩
theorem tw_701 : Cond.fieldLink RX4 116 (zC 1).1 ((zC 1).2.1 4).2.1 ((zC 1).2.1 4).2.2.1 ∈ zWs := zWs_mem (List.mem_of_getElem? (i := 701) (by decide +kernel)) rfl
theorem lfX4_116 : ZFL RX4 116 1 4 := ⟨by decide, by decide, tw_701⟩
theorem tw_702 : Cond.fieldLink RX1 27 (zC 1).1 ((zC 1).2.1 5).2.1 ((zC 1).2.1 5).2.2.1 ∈ zWs := zWs_mem (List.mem_of_getElem? (i := 702) (by decide +kernel)) rfl
theorem lfX1_27 : ZFL RX1 27 1 5 := ⟨by decide, by decide, tw_702⟩
theorem tw_703 : Cond.fieldLink RX8 123 (zC 1).1 ((zC 1).2.1 5).2.1 ((zC 1).2.1 5).2.2.1 ∈ zWs := zWs_mem (List.mem_of_getElem? (i := 703) (by decide +kernel)) rfl
theorem lfX8_123 : ZFL RX8 123 1 5 := ⟨by decide, by decide, tw_703⟩
theorem tw_704 : Cond.fieldLink RX9 165 (zC 1).1 ((zC 1).2.1 5).2.1 ((zC 1).2.1 5).2.2.1 ∈ zWs := zWs_mem (List.mem_of_getElem? (i := 704) (by decide +kernel)) rfl
theorem lfX9_165 : ZFL RX9 165 1 5 := ⟨by decide, by decide, tw_704⟩
theorem tw_728 : Cond.fieldLink RX5 9 (zC 5).1 ((zC 5).2.1 0).2.1 ((zC 5).2.1 0).2.2.1 ∈ zWs := zWs_mem (List.mem_of_getElem? (i := 728) (by decide +kernel)) rfl
theorem lfX5_9 : ZFL RX5 9 5 0 := ⟨by decide, by decide, tw_728⟩
theorem tw_729 : Cond.fieldLink RX5 15 (zC 5).1 ((zC 5).2.1 1).2.1 ((zC 5).2.1 1).2.2.1 ∈ zWs := zWs_mem (List.mem_of_getElem? (i := 729) (by decide +kernel)) rfl
theorem lfX5_15 : ZFL RX5 15 5 1 := ⟨by decide, by decide, tw_729⟩
theorem tw_730 : Cond.fieldLink RX9 157 (zC 5).1 ((zC 5).2.1 1).2.1 ((zC 5).2.1 1).2.2.1 ∈ zWs := zWs_mem (List.mem_of_getElem? (i := 730) (by decide +kernel)) rfl
theorem lfX9_157 : ZFL RX9 157 5 1 := ⟨by decide, by decide, tw_730⟩
theorem tw_919 : Cond.classLink RL 46 (zC 10).1 ∈ zWs := zWs_mem (List.mem_of_getElem? (i := 919) (by decide +kernel)) rfl
theorem tw_920 : Cond.instantiable (zC 10).1 (zC 10).2.2 ∈ zWs := zWs_mem (List.mem_of_getElem? (i := 920) (by decide +kernel)) rfl
theorem tw_90 : Cond.initialized (zC 10).1 ∈ zWs := zWs_mem (List.mem_of_getElem? (i := 90) (by decide +kernel)) rfl
theorem lnL_46 : ZNW RL 46 10 := ⟨by decide, tw_919, tw_920, tw_90⟩
theorem tw_925 : Cond.fieldLink RX10 133 (zC 10).1 ((zC 10).2.1 0).2.1 ((zC 10).2.1 0).2.2.1 ∈ zWs := zWs_mem (List.mem_of_getElem? (i := 925) (by decide +kernel)) rfl
theorem lfX10_133 : ZFL RX10 133 10 0 := ⟨by decide, by decide, tw_925⟩
theorem tw_926 : Cond.fieldLink RX10 137 (zC 10).1 ((zC 10).2.1 1).2.1 ((zC 10).2.1 1).2.2.1 ∈ zWs := zWs_mem (List.mem_of_getElem? (i := 926) (by decide +kernel)) rfl
theorem lfX10_137 : ZFL RX10 137 10 1 := ⟨by decide, by decide, tw_926⟩
theorem tw_927 : Cond.fieldLink RX10 7 (zC 10).1 ((zC 10).2.1 2).2.1 ((zC 10).2.1 2).2.2.1 ∈ zWs := zWs_mem (List.mem_of_getElem? (i := 927) (by decide +kernel)) rfl
theorem lfX10_7 : ZFL RX10 7 10 2 := ⟨by decide, by decide, tw_927⟩
theorem tw_928 : Cond.fieldLink RX10 13 (zC 10).1 ((zC 10).2.1 3).2.1 ((zC 10).2.1 3).2.2.1 ∈ zWs := zWs_mem (List.mem_of_getElem? (i := 928) (by decide +kernel)) rfl
theorem lfX10_13 : ZFL RX10 13 10 3 := ⟨by decide, by decide, tw_928⟩
theorem tw_929 : Cond.fieldLink RX10 16 (zC 10).1 ((zC 10).2.1 4).2.1 ((zC 10).2.1 4).2.2.1 ∈ zWs := zWs_mem (List.mem_of_getElem? (i := 929) (by decide +kernel)) rfl
theorem lfX10_16 : ZFL RX10 16 10 4 := ⟨by decide, by decide, tw_929⟩
theorem tw_930 : Cond.fieldLink RX10 19 (zC 10).1 ((zC 10).2.1 5).2.1 ((zC 10).2.1 5).2.2.1 ∈ zWs := zWs_mem (List.mem_of_getElem? (i := 930) (by decide +kernel)) rfl
theorem lfX10_19 : ZFL RX10 19 10 5 := ⟨by decide, by decide, tw_930⟩
theorem tw_931 : Cond.fieldLink RX10 22 (zC 10).1 ((zC 10).2.1 6).2.1 ((zC 10).2.1 6).2.2.1 ∈ zWs := zWs_mem (List.mem_of_getElem? (i := 931) (by decide +kernel)) rfl
theorem lfX10_22 : ZFL RX10 22 10 6 := ⟨by decide, by decide, tw_931⟩
theorem tw_932 : Cond.fieldLink RX10 25 (zC 10).1 ((zC 10).2.1 7).2.1 ((zC 10).2.1 7).2.2.1 ∈ zWs := zWs_mem (List.mem_of_getElem? (i := 932) (by decide +kernel)) rfl
theorem lfX10_25 : ZFL RX10 25 10 7 := ⟨by decide, by decide, tw_932⟩
theorem tw_933 : Cond.fieldLink RX10 274 (zC 10).1 ((zC 10).2.1 8).2.1 ((zC 10).2.1 8).2.2.1 ∈ zWs := zWs_mem (List.mem_of_getElem? (i := 933) (by decide +kernel)) rfl
theorem lfX10_274 : ZFL RX10 274 10 8 := ⟨by decide, by decide, tw_933⟩
theorem tw_934 : Cond.fieldLink RX10 28 (zC 10).1 ((zC 10).2.1 9).2.1 ((zC 10).2.1 9).2.2.1 ∈ zWs := zWs_mem (List.mem_of_getElem? (i := 934) (by decide +kernel)) rfl
theorem lfX10_28 : ZFL RX10 28 10 9 := ⟨by decide, by decide, tw_934⟩
theorem tw_935 : Cond.fieldLink RX10 32 (zC 10).1 ((zC 10).2.1 10).2.1 ((zC 10).2.1 10).2.2.1 ∈ zWs := zWs_mem (List.mem_of_getElem? (i := 935) (by decide +kernel)) rfl
theorem lfX10_32 : ZFL RX10 32 10 10 := ⟨by decide, by decide, tw_935⟩
theorem tw_936 : Cond.fieldLink RX10 35 (zC 10).1 ((zC 10).2.1 11).2.1 ((zC 10).2.1 11).2.2.1 ∈ zWs := zWs_mem (List.mem_of_getElem? (i := 936) (by decide +kernel)) rfl
theorem lfX10_35 : ZFL RX10 35 10 11 := ⟨by decide, by decide, tw_936⟩
theorem tw_937 : Cond.fieldLink RX10 144 (zC 10).1 ((zC 10).2.1 12).2.1 ((zC 10).2.1 12).2.2.1 ∈ zWs := zWs_mem (List.mem_of_getElem? (i := 937) (by decide +kernel)) rfl
theorem lfX10_144 : ZFL RX10 144 10 12 := ⟨by decide, by decide, tw_937⟩
theorem tw_938 : Cond.fieldLink RX10 150 (zC 10).1 ((zC 10).2.1 13).2.1 ((zC 10).2.1 13).2.2.1 ∈ zWs := zWs_mem (List.mem_of_getElem? (i := 938) (by decide +kernel)) rfl
theorem lfX10_150 : ZFL RX10 150 10 13 := ⟨by decide, by decide, tw_938⟩
theorem tw_939 : Cond.fieldLink RX10 147 (zC 10).1 ((zC 10).2.1 14).2.1 ((zC 10).2.1 14).2.2.1 ∈ zWs := zWs_mem (List.mem_of_getElem? (i := 939) (by decide +kernel)) rfl
theorem lfX10_147 : ZFL RX10 147 10 14 := ⟨by decide, by decide, tw_939⟩
theorem tw_940 : Cond.fieldLink RX10 153 (zC 10).1 ((zC 10).2.1 15).2.1 ((zC 10).2.1 15).2.2.1 ∈ zWs := zWs_mem (List.mem_of_getElem? (i := 940) (by decide +kernel)) rfl
theorem lfX10_153 : ZFL RX10 153 10 15 := ⟨by decide, by decide, tw_940⟩
theorem tw_941 : Cond.fieldLink RX10 157 (zC 10).1 ((zC 10).2.1 16).2.1 ((zC 10).2.1 16).2.2.1 ∈ zWs := zWs_mem (List.mem_of_getElem? (i := 941) (by decide +kernel)) rfl
theorem lfX10_157 : ZFL RX10 157 10 16 := ⟨by decide, by decide, tw_941⟩
theorem tw_942 : Cond.fieldLink RX10 38 (zC 10).1 ((zC 10).2.1 17).2.1 ((zC 10).2.1 17).2.2.1 ∈ zWs := zWs_mem (List.mem_of_getElem? (i := 942) (by decide +kernel)) rfl
theorem lfX10_38 : ZFL RX10 38 10 17 := ⟨by decide, by decide, tw_942⟩
theorem tw_943 : Cond.fieldLink RX10 160 (zC 10).1 ((zC 10).2.1 18).2.1 ((zC 10).2.1 18).2.2.1 ∈ zWs := zWs_mem (List.mem_of_getElem? (i := 943) (by decide +kernel)) rfl
theorem lfX10_160 : ZFL RX10 160 10 18 := ⟨by decide, by decide, tw_943⟩
theorem tw_944 : Cond.fieldLink RX10 41 (zC 10).1 ((zC 10).2.1 19).2.1 ((zC 10).2.1 19).2.2.1 ∈ zWs := zWs_mem (List.mem_of_getElem? (i := 944) (by decide +kernel)) rfl
theorem lfX10_41 : ZFL RX10 41 10 19 := ⟨by decide, by decide, tw_944⟩
theorem tw_945 : Cond.fieldLink RX10 44 (zC 10).1 ((zC 10).2.1 20).2.1 ((zC 10).2.1 20).2.2.1 ∈ zWs := zWs_mem (List.mem_of_getElem? (i := 945) (by decide +kernel)) rfl
theorem lfX10_44 : ZFL RX10 44 10 20 := ⟨by decide, by decide, tw_945⟩
theorem tw_946 : Cond.fieldLink RX10 163 (zC 10).1 ((zC 10).2.1 21).2.1 ((zC 10).2.1 21).2.2.1 ∈ zWs := zWs_mem (List.mem_of_getElem? (i := 946) (by decide +kernel)) rfl
theorem lfX10_163 : ZFL RX10 163 10 21 := ⟨by decide, by decide, tw_946⟩
theorem tw_947 : Cond.fieldLink RX10 47 (zC 10).1 ((zC 10).2.1 22).2.1 ((zC 10).2.1 22).2.2.1 ∈ zWs := zWs_mem (List.mem_of_getElem? (i := 947) (by decide +kernel)) rfl
theorem lfX10_47 : ZFL RX10 47 10 22 := ⟨by decide, by decide, tw_947⟩
theorem tw_948 : Cond.fieldLink RX10 50 (zC 10).1 ((zC 10).2.1 23).2.1 ((zC 10).2.1 23).2.2.1 ∈ zWs := zWs_mem (List.mem_of_getElem? (i := 948) (by decide +kernel)) rfl
theorem lfX10_50 : ZFL RX10 50 10 23 := ⟨by decide, by decide, tw_948⟩
theorem tw_949 : Cond.fieldLink RX10 53 (zC 10).1 ((zC 10).2.1 24).2.1 ((zC 10).2.1 24).2.2.1 ∈ zWs := zWs_mem (List.mem_of_getElem? (i := 949) (by decide +kernel)) rfl
theorem lfX10_53 : ZFL RX10 53 10 24 := ⟨by decide, by decide, tw_949⟩
theorem tw_950 : Cond.fieldLink RX10 56 (zC 10).1 ((zC 10).2.1 25).2.1 ((zC 10).2.1 25).2.2.1 ∈ zWs := zWs_mem (List.mem_of_getElem? (i := 950) (by decide +kernel)) rfl
theorem lfX10_56 : ZFL RX10 56 10 25 := ⟨by decide, by decide, tw_950⟩
theorem tw_951 : Cond.fieldLink RX10 208 (zC 10).1 ((zC 10).2.1 26).2.1 ((zC 10).2.1 26).2.2.1 ∈ zWs := zWs_mem (List.mem_of_getElem? (i := 951) (by decide +kernel)) rfl
theorem lfX10_208 : ZFL RX10 208 10 26 := ⟨by decide, by decide, tw_951⟩
theorem tw_952 : Cond.fieldLink RX10 166 (zC 10).1 ((zC 10).2.1 27).2.1 ((zC 10).2.1 27).2.2.1 ∈ zWs := zWs_mem (List.mem_of_getElem? (i := 952) (by decide +kernel)) rfl
theorem lfX10_166 : ZFL RX10 166 10 27 := ⟨by decide, by decide, tw_952⟩
theorem tw_953 : Cond.fieldLink RX10 59 (zC 10).1 ((zC 10).2.1 28).2.1 ((zC 10).2.1 28).2.2.1 ∈ zWs := zWs_mem (List.mem_of_getElem? (i := 953) (by decide +kernel)) rfl
theorem lfX10_59 : ZFL RX10 59 10 28 := ⟨by decide, by decide, tw_953⟩
theorem tw_954 : Cond.fieldLink RX10 62 (zC 10).1 ((zC 10).2.1 29).2.1 ((zC 10).2.1 29).2.2.1 ∈ zWs := zWs_mem (List.mem_of_getElem? (i := 954) (by decide +kernel)) rfl
theorem lfX10_62 : ZFL RX10 62 10 29 := ⟨by decide, by decide, tw_954⟩
theorem tw_955 : Cond.fieldLink RX10 65 (zC 10).1 ((zC 10).2.1 30).2.1 ((zC 10).2.1 30).2.2.1 ∈ zWs := zWs_mem (List.mem_of_getElem? (i := 955) (by decide +kernel)) rfl
theorem lfX10_65 : ZFL RX10 65 10 30 := ⟨by decide, by decide, tw_955⟩
theorem tw_956 : Cond.fieldLink RX10 69 (zC 10).1 ((zC 10).2.1 31).2.1 ((zC 10).2.1 31).2.2.1 ∈ zWs := zWs_mem (List.mem_of_getElem? (i := 956) (by decide +kernel)) rfl
theorem lfX10_69 : ZFL RX10 69 10 31 := ⟨by decide, by decide, tw_956⟩
theorem tw_957 : Cond.fieldLink RX10 169 (zC 10).1 ((zC 10).2.1 32).2.1 ((zC 10).2.1 32).2.2.1 ∈ zWs := zWs_mem (List.mem_of_getElem? (i := 957) (by decide +kernel)) rfl
theorem lfX10_169 : ZFL RX10 169 10 32 := ⟨by decide, by decide, tw_957⟩
theorem tw_958 : Cond.fieldLink RX10 72 (zC 10).1 ((zC 10).2.1 33).2.1 ((zC 10).2.1 33).2.2.1 ∈ zWs := zWs_mem (List.mem_of_getElem? (i := 958) (by decide +kernel)) rfl
theorem lfX10_72 : ZFL RX10 72 10 33 := ⟨by decide, by decide, tw_958⟩
theorem tw_959 : Cond.fieldLink RX10 75 (zC 10).1 ((zC 10).2.1 34).2.1 ((zC 10).2.1 34).2.2.1 ∈ zWs := zWs_mem (List.mem_of_getElem? (i := 959) (by decide +kernel)) rfl
theorem lfX10_75 : ZFL RX10 75 10 34 := ⟨by decide, by decide, tw_959⟩
theorem tw_960 : Cond.fieldLink RX10 79 (zC 10).1 ((zC 10).2.1 35).2.1 ((zC 10).2.1 35).2.2.1 ∈ zWs := zWs_mem (List.mem_of_getElem? (i := 960) (by decide +kernel)) rfl
theorem lfX10_79 : ZFL RX10 79 10 35 := ⟨by decide, by decide, tw_960⟩
theorem tw_961 : Cond.fieldLink RX10 82 (zC 10).1 ((zC 10).2.1 36).2.1 ((zC 10).2.1 36).2.2.1 ∈ zWs := zWs_mem (List.mem_of_getElem? (i := 961) (by decide +kernel)) rfl
theorem lfX10_82 : ZFL RX10 82 10 36 := ⟨by decide, by decide, tw_961⟩
theorem tw_962 : Cond.fieldLink RX10 85 (zC 10).1 ((zC 10).2.1 37).2.1 ((zC 10).2.1 37).2.2.1 ∈ zWs := zWs_mem (List.mem_of_getElem? (i := 962) (by decide +kernel)) rfl
theorem lfX10_85 : ZFL RX10 85 10 37 := ⟨by decide, by decide, tw_962⟩
theorem tw_963 : Cond.fieldLink RX10 88 (zC 10).1 ((zC 10).2.1 38).2.1 ((zC 10).2.1 38).2.2.1 ∈ zWs := zWs_mem (List.mem_of_getElem? (i := 963) (by decide +kernel)) rfl
theorem lfX10_88 : ZFL RX10 88 10 38 := ⟨by decide, by decide, tw_963⟩
theorem tw_964 : Cond.fieldLink RX10 91 (zC 10).1 ((zC 10).2.1 39).2.1 ((zC 10).2.1 39).2.2.1 ∈ zWs := zWs_mem (List.mem_of_getElem? (i := 964) (by decide +kernel)) rfl
theorem lfX10_91 : ZFL RX10 91 10 39 := ⟨by decide, by decide, tw_964⟩
theorem tw_965 : Cond.fieldLink RX10 94 (zC 10).1 ((zC 10).2.1 40).2.1 ((zC 10).2.1 40).2.2.1 ∈ zWs := zWs_mem (List.mem_of_getElem? (i := 965) (by decide +kernel)) rfl
theorem lfX10_94 : ZFL RX10 94 10 40 := ⟨by decide, by decide, tw_965⟩
theorem tw_966 : Cond.fieldLink RX10 97 (zC 10).1 ((zC 10).2.1 41).2.1 ((zC 10).2.1 41).2.2.1 ∈ zWs := zWs_mem (List.mem_of_getElem? (i := 966) (by decide +kernel)) rfl
theorem lfX10_97 : ZFL RX10 97 10 41 := ⟨by decide, by decide, tw_966⟩
theorem tw_967 : Cond.fieldLink RX10 100 (zC 10).1 ((zC 10).2.1 42).2.1 ((zC 10).2.1 42).2.2.1 ∈ zWs := zWs_mem (List.mem_of_getElem? (i := 967) (by decide +kernel)) rfl
theorem lfX10_100 : ZFL RX10 100 10 42 := ⟨by decide, by decide, tw_967⟩
theorem tw_968 : Cond.fieldLink RX10 103 (zC 10).1 ((zC 10).2.1 43).2.1 ((zC 10).2.1 43).2.2.1 ∈ zWs := zWs_mem (List.mem_of_getElem? (i := 968) (by decide +kernel)) rfl
theorem lfX10_103 : ZFL RX10 103 10 43 := ⟨by decide, by decide, tw_968⟩
theorem tw_969 : Cond.fieldLink RX10 363 (zC 10).1 ((zC 10).2.1 44).2.1 ((zC 10).2.1 44).2.2.1 ∈ zWs := zWs_mem (List.mem_of_getElem? (i := 969) (by decide +kernel)) rfl
theorem lfX10_363 : ZFL RX10 363 10 44 := ⟨by decide, by decide, tw_969⟩
theorem tw_970 : Cond.fieldLink RX10 324 (zC 10).1 ((zC 10).2.1 45).2.1 ((zC 10).2.1 45).2.2.1 ∈ zWs := zWs_mem (List.mem_of_getElem? (i := 970) (by decide +kernel)) rfl
theorem lfX10_324 : ZFL RX10 324 10 45 := ⟨by decide, by decide, tw_970⟩
theorem tw_971 : Cond.fieldLink RX10 106 (zC 10).1 ((zC 10).2.1 46).2.1 ((zC 10).2.1 46).2.2.1 ∈ zWs := zWs_mem (List.mem_of_getElem? (i := 971) (by decide +kernel)) rfl
theorem lfX10_106 : ZFL RX10 106 10 46 := ⟨by decide, by decide, tw_971⟩
theorem tw_972 : Cond.fieldLink RX10 109 (zC 10).1 ((zC 10).2.1 47).2.1 ((zC 10).2.1 47).2.2.1 ∈ zWs := zWs_mem (List.mem_of_getElem? (i := 972) (by decide +kernel)) rfl
theorem lfX10_109 : ZFL RX10 109 10 47 := ⟨by decide, by decide, tw_972⟩
theorem tw_973 : Cond.fieldLink RX10 328 (zC 10).1 ((zC 10).2.1 48).2.1 ((zC 10).2.1 48).2.2.1 ∈ zWs := zWs_mem (List.mem_of_getElem? (i := 973) (by decide +kernel)) rfl
theorem lfX10_328 : ZFL RX10 328 10 48 := ⟨by decide, by decide, tw_973⟩
theorem tw_974 : Cond.fieldLink RX10 112 (zC 10).1 ((zC 10).2.1 49).2.1 ((zC 10).2.1 49).2.2.1 ∈ zWs := zWs_mem (List.mem_of_getElem? (i := 974) (by decide +kernel)) rfl
theorem lfX10_112 : ZFL RX10 112 10 49 := ⟨by decide, by decide, tw_974⟩
theorem tw_975 : Cond.fieldLink RX10 115 (zC 10).1 ((zC 10).2.1 50).2.1 ((zC 10).2.1 50).2.2.1 ∈ zWs := zWs_mem (List.mem_of_getElem? (i := 975) (by decide +kernel)) rfl
theorem lfX10_115 : ZFL RX10 115 10 50 := ⟨by decide, by decide, tw_975⟩
theorem tw_976 : Cond.fieldLink RX10 118 (zC 10).1 ((zC 10).2.1 51).2.1 ((zC 10).2.1 51).2.2.1 ∈ zWs := zWs_mem (List.mem_of_getElem? (i := 976) (by decide +kernel)) rfl
theorem lfX10_118 : ZFL RX10 118 10 51 := ⟨by decide, by decide, tw_976⟩
theorem tw_977 : Cond.fieldLink RX10 121 (zC 10).1 ((zC 10).2.1 52).2.1 ((zC 10).2.1 52).2.2.1 ∈ zWs := zWs_mem (List.mem_of_getElem? (i := 977) (by decide +kernel)) rfl
theorem lfX10_121 : ZFL RX10 121 10 52 := ⟨by decide, by decide, tw_977⟩
theorem tw_978 : Cond.fieldLink RX10 124 (zC 10).1 ((zC 10).2.1 53).2.1 ((zC 10).2.1 53).2.2.1 ∈ zWs := zWs_mem (List.mem_of_getElem? (i := 978) (by decide +kernel)) rfl
theorem lfX10_124 : ZFL RX10 124 10 53 := ⟨by decide, by decide, tw_978⟩
theorem tw_979 : Cond.fieldLink RX10 127 (zC 10).1 ((zC 10).2.1 54).2.1 ((zC 10).2.1 54).2.2.1 ∈ zWs := zWs_mem (List.mem_of_getElem? (i := 979) (by decide +kernel)) rfl
theorem lfX10_127 : ZFL RX10 127 10 54 := ⟨by decide, by decide, tw_979⟩
theorem tw_980 : Cond.fieldLink RX10 130 (zC 10).1 ((zC 10).2.1 55).2.1 ((zC 10).2.1 55).2.2.1 ∈ zWs := zWs_mem (List.mem_of_getElem? (i := 980) (by decide +kernel)) rfl
theorem lfX10_130 : ZFL RX10 130 10 55 := ⟨by decide, by decide, tw_980⟩
theorem tw_981 : Cond.fieldLink RX10 319 (zC 10).1 ((zC 10).2.1 56).2.1 ((zC 10).2.1 56).2.2.1 ∈ zWs := zWs_mem (List.mem_of_getElem? (i := 981) (by decide +kernel)) rfl
theorem lfX10_319 : ZFL RX10 319 10 56 := ⟨by decide, by decide, tw_981⟩
theorem tw_114 : Cond.methodLink RL 45 yX9_init ∈ zWs := zWs_mem (List.mem_of_getElem? (i := 114) (by decide +kernel)) rfl
set_option maxRecDepth 20000 in
theorem tw_116 : Cond.code yX9_init MX9_init.2.1 MX9_init.2.2.1 MX9_init.2.2.2 ∈ zWs := zWs_mem (List.mem_of_getElem? (i := 116) rfl) rfl
theorem zy_X9_init : zYok MX9_init 0 := ⟨by decide +kernel, by decide +kernel, by decide +kernel⟩
theorem tw_115 : Cond.instanceMethod yX9_init ∈ zWs := zWs_mem (List.mem_of_getElem? (i := 115) (by decide +kernel)) rfl
theorem liL_45 : ZLI RL 45 MX9_init 0 := ⟨⟨tw_114, tw_115, tw_87, tw_116⟩, zy_X9_init, Nat.le_of_ble_eq_true rfl, rfl, rfl⟩
theorem tw_117 : Cond.methodLink RX9 3 Lib.objectInit ∈ zWs := zWs_mem (List.mem_of_getElem? (i := 117) (by decide +kernel)) rfl
theorem tw_126 : Cond.methodLink RX9 30 yX8_init ∈ zWs := zWs_mem (List.mem_of_getElem? (i := 126) (by decide +kernel)) rfl
set_option maxRecDepth 20000 in
theorem tw_128 : Cond.code yX8_init MX8_init.2.1 MX8_init.2.2.1 MX8_init.2.2.2 ∈ zWs := zWs_mem (List.mem_of_getElem? (i := 128) rfl) rfl
theorem zy_X8_init : zYok MX8_init 0 := ⟨by decide +kernel, by decide +kernel, by decide +kernel⟩
theorem tw_127 : Cond.instanceMethod yX8_init ∈ zWs := zWs_mem (List.mem_of_getElem? (i := 127) (by decide +kernel)) rfl
theorem liX9_30 : ZLI RX9 30 MX8_init 0 := ⟨⟨tw_126, tw_127, tw_88, tw_128⟩, zy_X8_init, Nat.le_of_ble_eq_true rfl, rfl, rfl⟩
theorem tw_129 : Cond.methodLink RX8 3 Lib.objectInit ∈ zWs := zWs_mem (List.mem_of_getElem? (i := 129) (by decide +kernel)) rfl
theorem tw_157 : Cond.methodLink RX9 37 yX4_init ∈ zWs := zWs_mem (List.mem_of_getElem? (i := 157) (by decide +kernel)) rfl
set_option maxRecDepth 20000 in
theorem tw_159 : Cond.code yX4_init MX4_init.2.1 MX4_init.2.2.1 MX4_init.2.2.2 ∈ zWs := zWs_mem (List.mem_of_getElem? (i := 159) rfl) rfl
theorem zy_X4_init : zYok MX4_init 0 := ⟨by decide +kernel, by decide +kernel, by decide +kernel⟩
theorem tw_158 : Cond.instanceMethod yX4_init ∈ zWs := zWs_mem (List.mem_of_getElem? (i := 158) (by decide +kernel)) rfl
theorem liX9_37 : ZLI RX9 37 MX4_init 0 := ⟨⟨tw_157, tw_158, tw_89, tw_159⟩, zy_X4_init, Nat.le_of_ble_eq_true rfl, rfl, rfl⟩
theorem tw_160 : Cond.methodLink RX4 3 Lib.objectInit ∈ zWs := zWs_mem (List.mem_of_getElem? (i := 160) (by decide +kernel)) rfl
theorem tw_215 : Cond.methodLink RL 59 yX9_put ∈ zWs := zWs_mem (List.mem_of_getElem? (i := 215) (by decide +kernel)) rfl
set_option maxRecDepth 20000 in
theorem tw_218 : Cond.code yX9_put MX9_put.2.1 MX9_put.2.2.1 MX9_put.2.2.2 ∈ zWs := zWs_mem (List.mem_of_getElem? (i := 218) rfl) rfl
theorem zy_X9_put : zYok MX9_put 2 := ⟨by decide +kernel, by decide +kernel, by decide +kernel⟩
theorem tw_216 : Cond.instanceMethod yX9_put ∈ zWs := zWs_mem (List.mem_of_getElem? (i := 216) (by decide +kernel)) rfl
theorem tw_217 : Cond.selects yX9_put.cls yX9_put yX9_put ∈ zWs := zWs_mem (List.mem_of_getElem? (i := 217) (by decide +kernel)) rfl
theorem lvL_59 : ZLV RL 59 MX9_put 2 := ⟨⟨tw_215, tw_216, tw_217, tw_87, tw_218⟩, zy_X9_put, Nat.le_of_ble_eq_true rfl⟩
theorem tw_219 : Cond.methodLink RX9 69 yX8_append ∈ zWs := zWs_mem (List.mem_of_getElem? (i := 219) (by decide +kernel)) rfl
set_option maxRecDepth 20000 in
theorem tw_222 : Cond.code yX8_append MX8_append.2.1 MX8_append.2.2.1 MX8_append.2.2.2 ∈ zWs := zWs_mem (List.mem_of_getElem? (i := 222) rfl) rfl
theorem zy_X8_append : zYok MX8_append 2 := ⟨by decide +kernel, by decide +kernel, by decide +kernel⟩
theorem tw_220 : Cond.instanceMethod yX8_append ∈ zWs := zWs_mem (List.mem_of_getElem? (i := 220) (by decide +kernel)) rfl
theorem tw_221 : Cond.selects yX8_append.cls yX8_append yX8_append ∈ zWs := zWs_mem (List.mem_of_getElem? (i := 221) (by decide +kernel)) rfl
theorem lvX9_69 : ZLV RX9 69 MX8_append 2 := ⟨⟨tw_219, tw_220, tw_221, tw_88, tw_222⟩, zy_X8_append, Nat.le_of_ble_eq_true rfl⟩
theorem tw_223 : Cond.methodLink RX8 36 yX8_byteOf ∈ zWs := zWs_mem (List.mem_of_getElem? (i := 223) (by decide +kernel)) rfl
set_option maxRecDepth 20000 in
theorem tw_225 : Cond.code yX8_byteOf MX8_byteOf.2.1 MX8_byteOf.2.2.1 MX8_byteOf.2.2.2 ∈ zWs := zWs_mem (List.mem_of_getElem? (i := 225) rfl) rfl
theorem zy_X8_byteOf : zYok MX8_byteOf 2 := ⟨by decide +kernel, by decide +kernel, by decide +kernel⟩
theorem tw_224 : Cond.static yX8_byteOf ∈ zWs := zWs_mem (List.mem_of_getElem? (i := 224) (by decide +kernel)) rfl
theorem lsX8_36 : ZLS RX8 36 MX8_byteOf 2 := ⟨⟨tw_223, tw_224, tw_88, tw_225⟩, zy_X8_byteOf, Nat.le_of_ble_eq_true rfl⟩
theorem tw_226 : Cond.methodLink RL 89 yX9_count ∈ zWs := zWs_mem (List.mem_of_getElem? (i := 226) (by decide +kernel)) rfl
set_option maxRecDepth 20000 in
theorem tw_229 : Cond.code yX9_count MX9_count.2.1 MX9_count.2.2.1 MX9_count.2.2.2 ∈ zWs := zWs_mem (List.mem_of_getElem? (i := 229) rfl) rfl
theorem zy_X9_count : zYok MX9_count 1 := ⟨by decide +kernel, by decide +kernel, by decide +kernel⟩
theorem tw_227 : Cond.instanceMethod yX9_count ∈ zWs := zWs_mem (List.mem_of_getElem? (i := 227) (by decide +kernel)) rfl
theorem tw_228 : Cond.selects yX9_count.cls yX9_count yX9_count ∈ zWs := zWs_mem (List.mem_of_getElem? (i := 228) (by decide +kernel)) rfl
theorem lvL_89 : ZLV RL 89 MX9_count 1 := ⟨⟨tw_226, tw_227, tw_228, tw_87, tw_229⟩, zy_X9_count, Nat.le_of_ble_eq_true rfl⟩
theorem tw_230 : Cond.methodLink RX9 142 yX8_size ∈ zWs := zWs_mem (List.mem_of_getElem? (i := 230) (by decide +kernel)) rfl
set_option maxRecDepth 20000 in
theorem tw_233 : Cond.code yX8_size MX8_size.2.1 MX8_size.2.2.1 MX8_size.2.2.2 ∈ zWs := zWs_mem (List.mem_of_getElem? (i := 233) rfl) rfl
theorem zy_X8_size : zYok MX8_size 0 := ⟨by decide +kernel, by decide +kernel, by decide +kernel⟩
theorem tw_231 : Cond.instanceMethod yX8_size ∈ zWs := zWs_mem (List.mem_of_getElem? (i := 231) (by decide +kernel)) rfl
theorem tw_232 : Cond.selects yX8_size.cls yX8_size yX8_size ∈ zWs := zWs_mem (List.mem_of_getElem? (i := 232) (by decide +kernel)) rfl
theorem lvX9_142 : ZLV RX9 142 MX8_size 0 := ⟨⟨tw_230, tw_231, tw_232, tw_88, tw_233⟩, zy_X8_size, Nat.le_of_ble_eq_true rfl⟩
theorem tw_239 : Cond.methodLink RL 7 yX9_element ∈ zWs := zWs_mem (List.mem_of_getElem? (i := 239) (by decide +kernel)) rfl
set_option maxRecDepth 20000 in
theorem tw_242 : Cond.code yX9_element MX9_element.2.1 MX9_element.2.2.1 MX9_element.2.2.2 ∈ zWs := zWs_mem (List.mem_of_getElem? (i := 242) rfl) rfl
theorem zy_X9_element : zYok MX9_element 4 := ⟨by decide +kernel, by decide +kernel, by decide +kernel⟩
theorem tw_240 : Cond.instanceMethod yX9_element ∈ zWs := zWs_mem (List.mem_of_getElem? (i := 240) (by decide +kernel)) rfl
theorem tw_241 : Cond.selects yX9_element.cls yX9_element yX9_element ∈ zWs := zWs_mem (List.mem_of_getElem? (i := 241) (by decide +kernel)) rfl
theorem lvL_7 : ZLV RL 7 MX9_element 4 := ⟨⟨tw_239, tw_240, tw_241, tw_87, tw_242⟩, zy_X9_element, Nat.le_of_ble_eq_true rfl⟩
theorem tw_243 : Cond.methodLink RX9 46 yX9_isElement ∈ zWs := zWs_mem (List.mem_of_getElem? (i := 243) (by decide +kernel)) rfl
set_option maxRecDepth 20000 in
theorem tw_246 : Cond.code yX9_isElement MX9_isElement.2.1 MX9_isElement.2.2.1 MX9_isElement.2.2.2 ∈ zWs := zWs_mem (List.mem_of_getElem? (i := 246) rfl) rfl
theorem zy_X9_isElement : zYok MX9_isElement 1 := ⟨by decide +kernel, by decide +kernel, by decide +kernel⟩
theorem tw_245 : Cond.instanceMethod yX9_isElement ∈ zWs := zWs_mem (List.mem_of_getElem? (i := 245) (by decide +kernel)) rfl
theorem ts_0 : Cond.selects yX9_isElement.cls yX9_isElement yX9_isElement ∈ zWs := zWs_mem (List.mem_of_getElem? (i := 0) (by decide +kernel)) rfl
theorem lvX9_46 : ZLV RX9 46 MX9_isElement 1 := ⟨⟨tw_243, tw_245, ts_0, tw_87, tw_246⟩, zy_X9_isElement, Nat.le_of_ble_eq_true rfl⟩
theorem tw_247 : Cond.methodLink RX9 50 yX9_isLetter ∈ zWs := zWs_mem (List.mem_of_getElem? (i := 247) (by decide +kernel)) rfl
set_option maxRecDepth 20000 in
theorem tw_249 : Cond.code yX9_isLetter MX9_isLetter.2.1 MX9_isLetter.2.2.1 MX9_isLetter.2.2.2 ∈ zWs := zWs_mem (List.mem_of_getElem? (i := 249) rfl) rfl
theorem zy_X9_isLetter : zYok MX9_isLetter 1 := ⟨by decide +kernel, by decide +kernel, by decide +kernel⟩
theorem tw_248 : Cond.static yX9_isLetter ∈ zWs := zWs_mem (List.mem_of_getElem? (i := 248) (by decide +kernel)) rfl
theorem lsX9_50 : ZLS RX9 50 MX9_isLetter 1 := ⟨⟨tw_247, tw_248, tw_87, tw_249⟩, zy_X9_isLetter, Nat.le_of_ble_eq_true rfl⟩
theorem tw_329 : Cond.methodLink RX9 59 yX2_init ∈ zWs := zWs_mem (List.mem_of_getElem? (i := 329) (by decide +kernel)) rfl
set_option maxRecDepth 20000 in
theorem tw_331 : Cond.code yX2_init MX2_init.2.1 MX2_init.2.2.1 MX2_init.2.2.2 ∈ zWs := zWs_mem (List.mem_of_getElem? (i := 331) rfl) rfl
theorem zy_X2_init : zYok MX2_init 5 := ⟨by decide +kernel, by decide +kernel, by decide +kernel⟩
theorem tw_330 : Cond.instanceMethod yX2_init ∈ zWs := zWs_mem (List.mem_of_getElem? (i := 330) (by decide +kernel)) rfl
theorem liX9_59 : ZLI RX9 59 MX2_init 5 := ⟨⟨tw_329, tw_330, tw_96, tw_331⟩, zy_X2_init, Nat.le_of_ble_eq_true rfl, rfl, rfl⟩
theorem tw_332 : Cond.methodLink RX2 1 Lib.objectInit ∈ zWs := zWs_mem (List.mem_of_getElem? (i := 332) (by decide +kernel)) rfl
theorem tw_333 : Cond.methodLink RX2 41 yJ6_bitCount_0f7a4 ∈ zWs := zWs_mem (List.mem_of_getElem? (i := 333) (by decide +kernel)) rfl
set_option maxRecDepth 20000 in
theorem tw_335 : Cond.code yJ6_bitCount_0f7a4 MJ6_bitCount_0f7a4.2.1 MJ6_bitCount_0f7a4.2.2.1 MJ6_bitCount_0f7a4.2.2.2 ∈ zWs := zWs_mem (List.mem_of_getElem? (i := 335) rfl) rfl
theorem tw_97 : Cond.initialized yJ6_bitCount_0f7a4.cls ∈ zWs := zWs_mem (List.mem_of_getElem? (i := 97) (by decide +kernel)) rfl
theorem zy_J6_bitCount_0f7a4 : zYok MJ6_bitCount_0f7a4 1 := ⟨by decide +kernel, by decide +kernel, by decide +kernel⟩
theorem tw_334 : Cond.static yJ6_bitCount_0f7a4 ∈ zWs := zWs_mem (List.mem_of_getElem? (i := 334) (by decide +kernel)) rfl
theorem lsX2_41 : ZLS RX2 41 MJ6_bitCount_0f7a4 1 := ⟨⟨tw_333, tw_334, tw_97, tw_335⟩, zy_J6_bitCount_0f7a4, Nat.le_of_ble_eq_true rfl⟩
theorem tw_341 : Cond.methodLink RX2 52 yX7_init ∈ zWs := zWs_mem (List.mem_of_getElem? (i := 341) (by decide +kernel)) rfl
set_option maxRecDepth 20000 in
theorem tw_343 : Cond.code yX7_init MX7_init.2.1 MX7_init.2.2.1 MX7_init.2.2.2 ∈ zWs := zWs_mem (List.mem_of_getElem? (i := 343) rfl) rfl
theorem zy_X7_init : zYok MX7_init 0 := ⟨by decide +kernel, by decide +kernel, by decide +kernel⟩
theorem tw_342 : Cond.instanceMethod yX7_init ∈ zWs := zWs_mem (List.mem_of_getElem? (i := 342) (by decide +kernel)) rfl
theorem liX2_52 : ZLI RX2 52 MX7_init 0 := ⟨⟨tw_341, tw_342, tw_98, tw_343⟩, zy_X7_init, Nat.le_of_ble_eq_true rfl, rfl, rfl⟩
theorem tw_344 : Cond.methodLink RX7 3 Lib.objectInit ∈ zWs := zWs_mem (List.mem_of_getElem? (i := 344) (by decide +kernel)) rfl
theorem tw_422 : Cond.methodLink RX9 65 yX2_adopt ∈ zWs := zWs_mem (List.mem_of_getElem? (i := 422) (by decide +kernel)) rfl
set_option maxRecDepth 20000 in
theorem tw_425 : Cond.code yX2_adopt MX2_adopt.2.1 MX2_adopt.2.2.1 MX2_adopt.2.2.2 ∈ zWs := zWs_mem (List.mem_of_getElem? (i := 425) rfl) rfl
theorem zy_X2_adopt : zYok MX2_adopt 1 := ⟨by decide +kernel, by decide +kernel, by decide +kernel⟩
theorem tw_423 : Cond.instanceMethod yX2_adopt ∈ zWs := zWs_mem (List.mem_of_getElem? (i := 423) (by decide +kernel)) rfl
theorem tw_424 : Cond.selects yX2_adopt.cls yX2_adopt yX2_adopt ∈ zWs := zWs_mem (List.mem_of_getElem? (i := 424) (by decide +kernel)) rfl
theorem lvX9_65 : ZLV RX9 65 MX2_adopt 1 := ⟨⟨tw_422, tw_423, tw_424, tw_96, tw_425⟩, zy_X2_adopt, Nat.le_of_ble_eq_true rfl⟩
theorem tw_429 : Cond.methodLink RL 17 yX9_rule ∈ zWs := zWs_mem (List.mem_of_getElem? (i := 429) (by decide +kernel)) rfl
set_option maxRecDepth 20000 in
theorem tw_432 : Cond.code yX9_rule MX9_rule.2.1 MX9_rule.2.2.1 MX9_rule.2.2.2 ∈ zWs := zWs_mem (List.mem_of_getElem? (i := 432) rfl) rfl
theorem zy_X9_rule : zYok MX9_rule 1 := ⟨by decide +kernel, by decide +kernel, by decide +kernel⟩
theorem tw_430 : Cond.instanceMethod yX9_rule ∈ zWs := zWs_mem (List.mem_of_getElem? (i := 430) (by decide +kernel)) rfl
theorem tw_431 : Cond.selects yX9_rule.cls yX9_rule yX9_rule ∈ zWs := zWs_mem (List.mem_of_getElem? (i := 431) (by decide +kernel)) rfl
theorem lvL_17 : ZLV RL 17 MX9_rule 1 := ⟨⟨tw_429, tw_430, tw_431, tw_87, tw_432⟩, zy_X9_rule, Nat.le_of_ble_eq_true rfl⟩
theorem tw_433 : Cond.methodLink RX9 73 yX8_startReading ∈ zWs := zWs_mem (List.mem_of_getElem? (i := 433) (by decide +kernel)) rfl
set_option maxRecDepth 20000 in
theorem tw_436 : Cond.code yX8_startReading MX8_startReading.2.1 MX8_startReading.2.2.1 MX8_startReading.2.2.2 ∈ zWs := zWs_mem (List.mem_of_getElem? (i := 436) rfl) rfl
theorem zy_X8_startReading : zYok MX8_startReading 0 := ⟨by decide +kernel, by decide +kernel, by decide +kernel⟩
theorem tw_434 : Cond.instanceMethod yX8_startReading ∈ zWs := zWs_mem (List.mem_of_getElem? (i := 434) (by decide +kernel)) rfl
theorem tw_435 : Cond.selects yX8_startReading.cls yX8_startReading yX8_startReading ∈ zWs := zWs_mem (List.mem_of_getElem? (i := 435) (by decide +kernel)) rfl
theorem lvX9_73 : ZLV RX9 73 MX8_startReading 0 := ⟨⟨tw_433, tw_434, tw_435, tw_88, tw_436⟩, zy_X8_startReading, Nat.le_of_ble_eq_true rfl⟩
theorem tw_437 : Cond.methodLink RX9 76 yX8_readSelectors ∈ zWs := zWs_mem (List.mem_of_getElem? (i := 437) (by decide +kernel)) rfl
set_option maxRecDepth 20000 in
theorem tw_440 : Cond.code yX8_readSelectors MX8_readSelectors.2.1 MX8_readSelectors.2.2.1 MX8_readSelectors.2.2.2 ∈ zWs := zWs_mem (List.mem_of_getElem? (i := 440) rfl) rfl
theorem zy_X8_readSelectors : zYok MX8_readSelectors 0 := ⟨by decide +kernel, by decide +kernel, by decide +kernel⟩
theorem tw_438 : Cond.instanceMethod yX8_readSelectors ∈ zWs := zWs_mem (List.mem_of_getElem? (i := 438) (by decide +kernel)) rfl
theorem tw_439 : Cond.selects yX8_readSelectors.cls yX8_readSelectors yX8_readSelectors ∈ zWs := zWs_mem (List.mem_of_getElem? (i := 439) (by decide +kernel)) rfl
theorem lvX9_76 : ZLV RX9 76 MX8_readSelectors 0 := ⟨⟨tw_437, tw_438, tw_439, tw_88, tw_440⟩, zy_X8_readSelectors, Nat.le_of_ble_eq_true rfl⟩
theorem tw_441 : Cond.methodLink RX8 40 yX8_readSelector ∈ zWs := zWs_mem (List.mem_of_getElem? (i := 441) (by decide +kernel)) rfl
set_option maxRecDepth 20000 in
theorem tw_444 : Cond.code yX8_readSelector MX8_readSelector.2.1 MX8_readSelector.2.2.1 MX8_readSelector.2.2.2 ∈ zWs := zWs_mem (List.mem_of_getElem? (i := 444) rfl) rfl
theorem zy_X8_readSelector : zYok MX8_readSelector 0 := ⟨by decide +kernel, by decide +kernel, by decide +kernel⟩
theorem tw_443 : Cond.instanceMethod yX8_readSelector ∈ zWs := zWs_mem (List.mem_of_getElem? (i := 443) (by decide +kernel)) rfl
theorem ts_2 : Cond.selects yX8_readSelector.cls yX8_readSelector yX8_readSelector ∈ zWs := zWs_mem (List.mem_of_getElem? (i := 2) (by decide +kernel)) rfl
theorem lvX8_40 : ZLV RX8 40 MX8_readSelector 0 := ⟨⟨tw_441, tw_443, ts_2, tw_88, tw_444⟩, zy_X8_readSelector, Nat.le_of_ble_eq_true rfl⟩
theorem tw_445 : Cond.methodLink RX8 54 yX8_readCompound ∈ zWs := zWs_mem (List.mem_of_getElem? (i := 445) (by decide +kernel)) rfl
set_option maxRecDepth 20000 in
theorem tw_448 : Cond.code yX8_readCompound MX8_readCompound.2.1 MX8_readCompound.2.2.1 MX8_readCompound.2.2.2 ∈ zWs := zWs_mem (List.mem_of_getElem? (i := 448) rfl) rfl
theorem zy_X8_readCompound : zYok MX8_readCompound 1 := ⟨by decide +kernel, by decide +kernel, by decide +kernel⟩
theorem tw_447 : Cond.instanceMethod yX8_readCompound ∈ zWs := zWs_mem (List.mem_of_getElem? (i := 447) (by decide +kernel)) rfl
theorem ts_3 : Cond.selects yX8_readCompound.cls yX8_readCompound yX8_readCompound ∈ zWs := zWs_mem (List.mem_of_getElem? (i := 3) (by decide +kernel)) rfl
theorem lvX8_54 : ZLV RX8 54 MX8_readCompound 1 := ⟨⟨tw_445, tw_447, ts_3, tw_88, tw_448⟩, zy_X8_readCompound, Nat.le_of_ble_eq_true rfl⟩
theorem tw_449 : Cond.methodLink RX8 63 yX8_peek ∈ zWs := zWs_mem (List.mem_of_getElem? (i := 449) (by decide +kernel)) rfl
set_option maxRecDepth 20000 in
theorem tw_452 : Cond.code yX8_peek MX8_peek.2.1 MX8_peek.2.2.1 MX8_peek.2.2.2 ∈ zWs := zWs_mem (List.mem_of_getElem? (i := 452) rfl) rfl
theorem zy_X8_peek : zYok MX8_peek 0 := ⟨by decide +kernel, by decide +kernel, by decide +kernel⟩
theorem tw_451 : Cond.instanceMethod yX8_peek ∈ zWs := zWs_mem (List.mem_of_getElem? (i := 451) (by decide +kernel)) rfl
theorem ts_4 : Cond.selects yX8_peek.cls yX8_peek yX8_peek ∈ zWs := zWs_mem (List.mem_of_getElem? (i := 4) (by decide +kernel)) rfl
theorem lvX8_63 : ZLV RX8 63 MX8_peek 0 := ⟨⟨tw_449, tw_451, ts_4, tw_88, tw_452⟩, zy_X8_peek, Nat.le_of_ble_eq_true rfl⟩
theorem tw_456 : Cond.methodLink RX8 85 yX0_init ∈ zWs := zWs_mem (List.mem_of_getElem? (i := 456) (by decide +kernel)) rfl
set_option maxRecDepth 20000 in
theorem tw_458 : Cond.code yX0_init MX0_init.2.1 MX0_init.2.2.1 MX0_init.2.2.2 ∈ zWs := zWs_mem (List.mem_of_getElem? (i := 458) rfl) rfl
theorem zy_X0_init : zYok MX0_init 1 := ⟨by decide +kernel, by decide +kernel, by decide +kernel⟩
theorem tw_457 : Cond.instanceMethod yX0_init ∈ zWs := zWs_mem (List.mem_of_getElem? (i := 457) (by decide +kernel)) rfl
theorem liX8_85 : ZLI RX8 85 MX0_init 1 := ⟨⟨tw_456, tw_457, tw_99, tw_458⟩, zy_X0_init, Nat.le_of_ble_eq_true rfl, rfl, rfl⟩
theorem tw_459 : Cond.methodLink RX0 1 Lib.objectInit ∈ zWs := zWs_mem (List.mem_of_getElem? (i := 459) (by decide +kernel)) rfl
theorem tw_484 : Cond.methodLink RX8 88 yX8_isPartSign ∈ zWs := zWs_mem (List.mem_of_getElem? (i := 484) (by decide +kernel)) rfl
set_option maxRecDepth 20000 in
theorem tw_486 : Cond.code yX8_isPartSign MX8_isPartSign.2.1 MX8_isPartSign.2.2.1 MX8_isPartSign.2.2.2 ∈ zWs := zWs_mem (List.mem_of_getElem? (i := 486) rfl) rfl
theorem zy_X8_isPartSign : zYok MX8_isPartSign 1 := ⟨by decide +kernel, by decide +kernel, by decide +kernel⟩
theorem tw_485 : Cond.static yX8_isPartSign ∈ zWs := zWs_mem (List.mem_of_getElem? (i := 485) (by decide +kernel)) rfl
theorem lsX8_88 : ZLS RX8 88 MX8_isPartSign 1 := ⟨⟨tw_484, tw_485, tw_88, tw_486⟩, zy_X8_isPartSign, Nat.le_of_ble_eq_true rfl⟩
theorem tw_487 : Cond.methodLink RX8 91 yX8_readPart ∈ zWs := zWs_mem (List.mem_of_getElem? (i := 487) (by decide +kernel)) rfl
set_option maxRecDepth 20000 in
theorem tw_490 : Cond.code yX8_readPart MX8_readPart.2.1 MX8_readPart.2.2.1 MX8_readPart.2.2.2 ∈ zWs := zWs_mem (List.mem_of_getElem? (i := 490) rfl) rfl
theorem zy_X8_readPart : zYok MX8_readPart 2 := ⟨by decide +kernel, by decide +kernel, by decide +kernel⟩
theorem tw_489 : Cond.instanceMethod yX8_readPart ∈ zWs := zWs_mem (List.mem_of_getElem? (i := 489) (by decide +kernel)) rfl
theorem ts_5 : Cond.selects yX8_readPart.cls yX8_readPart yX8_readPart ∈ zWs := zWs_mem (List.mem_of_getElem? (i := 5) (by decide +kernel)) rfl
theorem lvX8_91 : ZLV RX8 91 MX8_readPart 2 := ⟨⟨tw_487, tw_489, ts_5, tw_88, tw_490⟩, zy_X8_readPart, Nat.le_of_ble_eq_true rfl⟩
theorem tw_491 : Cond.methodLink RX8 71 yX8_next ∈ zWs := zWs_mem (List.mem_of_getElem? (i := 491) (by decide +kernel)) rfl
set_option maxRecDepth 20000 in
theorem tw_494 : Cond.code yX8_next MX8_next.2.1 MX8_next.2.2.1 MX8_next.2.2.2 ∈ zWs := zWs_mem (List.mem_of_getElem? (i := 494) rfl) rfl
theorem zy_X8_next : zYok MX8_next 0 := ⟨by decide +kernel, by decide +kernel, by decide +kernel⟩
theorem tw_493 : Cond.instanceMethod yX8_next ∈ zWs := zWs_mem (List.mem_of_getElem? (i := 493) (by decide +kernel)) rfl
theorem ts_6 : Cond.selects yX8_next.cls yX8_next yX8_next ∈ zWs := zWs_mem (List.mem_of_getElem? (i := 6) (by decide +kernel)) rfl
theorem lvX8_71 : ZLV RX8 71 MX8_next 0 := ⟨⟨tw_491, tw_493, ts_6, tw_88, tw_494⟩, zy_X8_next, Nat.le_of_ble_eq_true rfl⟩
theorem tw_497 : Cond.methodLink RX8 97 yX3_init ∈ zWs := zWs_mem (List.mem_of_getElem? (i := 497) (by decide +kernel)) rfl
set_option maxRecDepth 20000 in
theorem tw_499 : Cond.code yX3_init MX3_init.2.1 MX3_init.2.2.1 MX3_init.2.2.2 ∈ zWs := zWs_mem (List.mem_of_getElem? (i := 499) rfl) rfl
theorem zy_X3_init : zYok MX3_init 3 := ⟨by decide +kernel, by decide +kernel, by decide +kernel⟩
theorem tw_498 : Cond.instanceMethod yX3_init ∈ zWs := zWs_mem (List.mem_of_getElem? (i := 498) (by decide +kernel)) rfl
theorem liX8_97 : ZLI RX8 97 MX3_init 3 := ⟨⟨tw_497, tw_498, tw_100, tw_499⟩, zy_X3_init, Nat.le_of_ble_eq_true rfl, rfl, rfl⟩
theorem tw_500 : Cond.methodLink RX3 1 Lib.objectInit ∈ zWs := zWs_mem (List.mem_of_getElem? (i := 500) (by decide +kernel)) rfl
theorem tw_516 : Cond.methodLink RX8 100 yX8_readChildNumber ∈ zWs := zWs_mem (List.mem_of_getElem? (i := 516) (by decide +kernel)) rfl
set_option maxRecDepth 20000 in
theorem tw_519 : Cond.code yX8_readChildNumber MX8_readChildNumber.2.1 MX8_readChildNumber.2.2.1 MX8_readChildNumber.2.2.2 ∈ zWs := zWs_mem (List.mem_of_getElem? (i := 519) rfl) rfl
theorem zy_X8_readChildNumber : zYok MX8_readChildNumber 0 := ⟨by decide +kernel, by decide +kernel, by decide +kernel⟩
theorem tw_518 : Cond.instanceMethod yX8_readChildNumber ∈ zWs := zWs_mem (List.mem_of_getElem? (i := 518) (by decide +kernel)) rfl
theorem ts_7 : Cond.selects yX8_readChildNumber.cls yX8_readChildNumber yX8_readChildNumber ∈ zWs := zWs_mem (List.mem_of_getElem? (i := 7) (by decide +kernel)) rfl
theorem lvX8_100 : ZLV RX8 100 MX8_readChildNumber 0 := ⟨⟨tw_516, tw_518, ts_7, tw_88, tw_519⟩, zy_X8_readChildNumber, Nat.le_of_ble_eq_true rfl⟩
theorem tw_520 : Cond.methodLink RX8 44 yX8_take ∈ zWs := zWs_mem (List.mem_of_getElem? (i := 520) (by decide +kernel)) rfl
set_option maxRecDepth 20000 in
theorem tw_523 : Cond.code yX8_take MX8_take.2.1 MX8_take.2.2.1 MX8_take.2.2.2 ∈ zWs := zWs_mem (List.mem_of_getElem? (i := 523) rfl) rfl
theorem zy_X8_take : zYok MX8_take 1 := ⟨by decide +kernel, by decide +kernel, by decide +kernel⟩
theorem tw_522 : Cond.instanceMethod yX8_take ∈ zWs := zWs_mem (List.mem_of_getElem? (i := 522) (by decide +kernel)) rfl
theorem ts_8 : Cond.selects yX8_take.cls yX8_take yX8_take ∈ zWs := zWs_mem (List.mem_of_getElem? (i := 8) (by decide +kernel)) rfl
theorem lvX8_44 : ZLV RX8 44 MX8_take 1 := ⟨⟨tw_520, tw_522, ts_8, tw_88, tw_523⟩, zy_X8_take, Nat.le_of_ble_eq_true rfl⟩
theorem tw_524 : Cond.methodLink RX8 116 yX8_readDigit ∈ zWs := zWs_mem (List.mem_of_getElem? (i := 524) (by decide +kernel)) rfl
set_option maxRecDepth 20000 in
theorem tw_527 : Cond.code yX8_readDigit MX8_readDigit.2.1 MX8_readDigit.2.2.1 MX8_readDigit.2.2.2 ∈ zWs := zWs_mem (List.mem_of_getElem? (i := 527) rfl) rfl
theorem zy_X8_readDigit : zYok MX8_readDigit 0 := ⟨by decide +kernel, by decide +kernel, by decide +kernel⟩
theorem tw_526 : Cond.instanceMethod yX8_readDigit ∈ zWs := zWs_mem (List.mem_of_getElem? (i := 526) (by decide +kernel)) rfl
theorem ts_9 : Cond.selects yX8_readDigit.cls yX8_readDigit yX8_readDigit ∈ zWs := zWs_mem (List.mem_of_getElem? (i := 9) (by decide +kernel)) rfl
theorem lvX8_116 : ZLV RX8 116 MX8_readDigit 0 := ⟨⟨tw_524, tw_526, ts_9, tw_88, tw_527⟩, zy_X8_readDigit, Nat.le_of_ble_eq_true rfl⟩
theorem tw_528 : Cond.methodLink RX8 104 yX8_readExclusion ∈ zWs := zWs_mem (List.mem_of_getElem? (i := 528) (by decide +kernel)) rfl
set_option maxRecDepth 20000 in
theorem tw_531 : Cond.code yX8_readExclusion MX8_readExclusion.2.1 MX8_readExclusion.2.2.1 MX8_readExclusion.2.2.2 ∈ zWs := zWs_mem (List.mem_of_getElem? (i := 531) rfl) rfl
theorem zy_X8_readExclusion : zYok MX8_readExclusion 1 := ⟨by decide +kernel, by decide +kernel, by decide +kernel⟩
theorem tw_530 : Cond.instanceMethod yX8_readExclusion ∈ zWs := zWs_mem (List.mem_of_getElem? (i := 530) (by decide +kernel)) rfl
theorem ts_10 : Cond.selects yX8_readExclusion.cls yX8_readExclusion yX8_readExclusion ∈ zWs := zWs_mem (List.mem_of_getElem? (i := 10) (by decide +kernel)) rfl
theorem lvX8_104 : ZLV RX8 104 MX8_readExclusion 1 := ⟨⟨tw_528, tw_530, ts_10, tw_88, tw_531⟩, zy_X8_readExclusion, Nat.le_of_ble_eq_true rfl⟩
theorem tw_532 : Cond.methodLink RX8 112 yX0_exclude ∈ zWs := zWs_mem (List.mem_of_getElem? (i := 532) (by decide +kernel)) rfl
set_option maxRecDepth 20000 in
theorem tw_535 : Cond.code yX0_exclude MX0_exclude.2.1 MX0_exclude.2.2.1 MX0_exclude.2.2.2 ∈ zWs := zWs_mem (List.mem_of_getElem? (i := 535) rfl) rfl
theorem zy_X0_exclude : zYok MX0_exclude 1 := ⟨by decide +kernel, by decide +kernel, by decide +kernel⟩
theorem tw_533 : Cond.instanceMethod yX0_exclude ∈ zWs := zWs_mem (List.mem_of_getElem? (i := 533) (by decide +kernel)) rfl
theorem tw_534 : Cond.selects yX0_exclude.cls yX0_exclude yX0_exclude ∈ zWs := zWs_mem (List.mem_of_getElem? (i := 534) (by decide +kernel)) rfl
theorem lvX8_112 : ZLV RX8 112 MX0_exclude 1 := ⟨⟨tw_532, tw_533, tw_534, tw_99, tw_535⟩, zy_X0_exclude, Nat.le_of_ble_eq_true rfl⟩
theorem tw_536 : Cond.methodLink RX8 108 yX0_add ∈ zWs := zWs_mem (List.mem_of_getElem? (i := 536) (by decide +kernel)) rfl
set_option maxRecDepth 20000 in
theorem tw_539 : Cond.code yX0_add MX0_add.2.1 MX0_add.2.2.1 MX0_add.2.2.2 ∈ zWs := zWs_mem (List.mem_of_getElem? (i := 539) rfl) rfl
theorem zy_X0_add : zYok MX0_add 1 := ⟨by decide +kernel, by decide +kernel, by decide +kernel⟩
theorem tw_537 : Cond.instanceMethod yX0_add ∈ zWs := zWs_mem (List.mem_of_getElem? (i := 537) (by decide +kernel)) rfl
theorem tw_538 : Cond.selects yX0_add.cls yX0_add yX0_add ∈ zWs := zWs_mem (List.mem_of_getElem? (i := 538) (by decide +kernel)) rfl
theorem lvX8_108 : ZLV RX8 108 MX0_add 1 := ⟨⟨tw_536, tw_537, tw_538, tw_99, tw_539⟩, zy_X0_add, Nat.le_of_ble_eq_true rfl⟩
theorem tw_540 : Cond.methodLink RX8 67 yX8_isJoin ∈ zWs := zWs_mem (List.mem_of_getElem? (i := 540) (by decide +kernel)) rfl
set_option maxRecDepth 20000 in
theorem tw_542 : Cond.code yX8_isJoin MX8_isJoin.2.1 MX8_isJoin.2.2.1 MX8_isJoin.2.2.2 ∈ zWs := zWs_mem (List.mem_of_getElem? (i := 542) rfl) rfl
theorem zy_X8_isJoin : zYok MX8_isJoin 1 := ⟨by decide +kernel, by decide +kernel, by decide +kernel⟩
theorem tw_541 : Cond.static yX8_isJoin ∈ zWs := zWs_mem (List.mem_of_getElem? (i := 541) (by decide +kernel)) rfl
theorem lsX8_67 : ZLS RX8 67 MX8_isJoin 1 := ⟨⟨tw_540, tw_541, tw_88, tw_542⟩, zy_X8_isJoin, Nat.le_of_ble_eq_true rfl⟩
theorem tw_545 : Cond.methodLink RX8 79 yX6_init ∈ zWs := zWs_mem (List.mem_of_getElem? (i := 545) (by decide +kernel)) rfl
set_option maxRecDepth 20000 in
theorem tw_547 : Cond.code yX6_init MX6_init.2.1 MX6_init.2.2.1 MX6_init.2.2.2 ∈ zWs := zWs_mem (List.mem_of_getElem? (i := 547) rfl) rfl
theorem zy_X6_init : zYok MX6_init 2 := ⟨by decide +kernel, by decide +kernel, by decide +kernel⟩
theorem tw_546 : Cond.instanceMethod yX6_init ∈ zWs := zWs_mem (List.mem_of_getElem? (i := 546) (by decide +kernel)) rfl
theorem liX8_79 : ZLI RX8 79 MX6_init 2 := ⟨⟨tw_545, tw_546, tw_101, tw_547⟩, zy_X6_init, Nat.le_of_ble_eq_true rfl, rfl, rfl⟩
theorem tw_548 : Cond.methodLink RX6 1 Lib.objectInit ∈ zWs := zWs_mem (List.mem_of_getElem? (i := 548) (by decide +kernel)) rfl
theorem tw_568 : Cond.methodLink RX9 80 yX8_readDeclarations ∈ zWs := zWs_mem (List.mem_of_getElem? (i := 568) (by decide +kernel)) rfl
set_option maxRecDepth 20000 in
theorem tw_571 : Cond.code yX8_readDeclarations MX8_readDeclarations.2.1 MX8_readDeclarations.2.2.1 MX8_readDeclarations.2.2.2 ∈ zWs := zWs_mem (List.mem_of_getElem? (i := 571) rfl) rfl
theorem zy_X8_readDeclarations : zYok MX8_readDeclarations 1 := ⟨by decide +kernel, by decide +kernel, by decide +kernel⟩
theorem tw_569 : Cond.instanceMethod yX8_readDeclarations ∈ zWs := zWs_mem (List.mem_of_getElem? (i := 569) (by decide +kernel)) rfl
theorem tw_570 : Cond.selects yX8_readDeclarations.cls yX8_readDeclarations yX8_readDeclarations ∈ zWs := zWs_mem (List.mem_of_getElem? (i := 570) (by decide +kernel)) rfl
theorem lvX9_80 : ZLV RX9 80 MX8_readDeclarations 1 := ⟨⟨tw_568, tw_569, tw_570, tw_88, tw_571⟩, zy_X8_readDeclarations, Nat.le_of_ble_eq_true rfl⟩
theorem tw_572 : Cond.methodLink RX8 119 yX8_readDeclaration ∈ zWs := zWs_mem (List.mem_of_getElem? (i := 572) (by decide +kernel)) rfl
set_option maxRecDepth 20000 in
theorem tw_575 : Cond.code yX8_readDeclaration MX8_readDeclaration.2.1 MX8_readDeclaration.2.2.1 MX8_readDeclaration.2.2.2 ∈ zWs := zWs_mem (List.mem_of_getElem? (i := 575) rfl) rfl
theorem zy_X8_readDeclaration : zYok MX8_readDeclaration 1 := ⟨by decide +kernel, by decide +kernel, by decide +kernel⟩
theorem tw_574 : Cond.instanceMethod yX8_readDeclaration ∈ zWs := zWs_mem (List.mem_of_getElem? (i := 574) (by decide +kernel)) rfl
theorem ts_11 : Cond.selects yX8_readDeclaration.cls yX8_readDeclaration yX8_readDeclaration ∈ zWs := zWs_mem (List.mem_of_getElem? (i := 11) (by decide +kernel)) rfl
theorem lvX8_119 : ZLV RX8 119 MX8_readDeclaration 1 := ⟨⟨tw_572, tw_574, ts_11, tw_88, tw_575⟩, zy_X8_readDeclaration, Nat.le_of_ble_eq_true rfl⟩
theorem tw_576 : Cond.methodLink RX8 132 yX8_readName ∈ zWs := zWs_mem (List.mem_of_getElem? (i := 576) (by decide +kernel)) rfl
set_option maxRecDepth 20000 in
theorem tw_579 : Cond.code yX8_readName MX8_readName.2.1 MX8_readName.2.2.1 MX8_readName.2.2.2 ∈ zWs := zWs_mem (List.mem_of_getElem? (i := 579) rfl) rfl
theorem zy_X8_readName : zYok MX8_readName 0 := ⟨by decide +kernel, by decide +kernel, by decide +kernel⟩
theorem tw_578 : Cond.instanceMethod yX8_readName ∈ zWs := zWs_mem (List.mem_of_getElem? (i := 578) (by decide +kernel)) rfl
theorem ts_12 : Cond.selects yX8_readName.cls yX8_readName yX8_readName ∈ zWs := zWs_mem (List.mem_of_getElem? (i := 12) (by decide +kernel)) rfl
theorem lvX8_132 : ZLV RX8 132 MX8_readName 0 := ⟨⟨tw_576, tw_578, ts_12, tw_88, tw_579⟩, zy_X8_readName, Nat.le_of_ble_eq_true rfl⟩
theorem tw_580 : Cond.methodLink RX8 158 yX8_readNamed ∈ zWs := zWs_mem (List.mem_of_getElem? (i := 580) (by decide +kernel)) rfl
set_option maxRecDepth 20000 in
theorem tw_583 : Cond.code yX8_readNamed MX8_readNamed.2.1 MX8_readNamed.2.2.1 MX8_readNamed.2.2.2 ∈ zWs := zWs_mem (List.mem_of_getElem? (i := 583) rfl) rfl
theorem zy_X8_readNamed : zYok MX8_readNamed 0 := ⟨by decide +kernel, by decide +kernel, by decide +kernel⟩
theorem tw_582 : Cond.instanceMethod yX8_readNamed ∈ zWs := zWs_mem (List.mem_of_getElem? (i := 582) (by decide +kernel)) rfl
theorem ts_13 : Cond.selects yX8_readNamed.cls yX8_readNamed yX8_readNamed ∈ zWs := zWs_mem (List.mem_of_getElem? (i := 13) (by decide +kernel)) rfl
theorem lvX8_158 : ZLV RX8 158 MX8_readNamed 0 := ⟨⟨tw_580, tw_582, ts_13, tw_88, tw_583⟩, zy_X8_readNamed, Nat.le_of_ble_eq_true rfl⟩
theorem tw_585 : Cond.methodLink RX8 137 yX8_takeWord ∈ zWs := zWs_mem (List.mem_of_getElem? (i := 585) (by decide +kernel)) rfl
set_option maxRecDepth 20000 in
theorem tw_588 : Cond.code yX8_takeWord MX8_takeWord.2.1 MX8_takeWord.2.2.1 MX8_takeWord.2.2.2 ∈ zWs := zWs_mem (List.mem_of_getElem? (i := 588) rfl) rfl
theorem zy_X8_takeWord : zYok MX8_takeWord 1 := ⟨by decide +kernel, by decide +kernel, by decide +kernel⟩
theorem tw_587 : Cond.instanceMethod yX8_takeWord ∈ zWs := zWs_mem (List.mem_of_getElem? (i := 587) (by decide +kernel)) rfl
theorem ts_14 : Cond.selects yX8_takeWord.cls yX8_takeWord yX8_takeWord ∈ zWs := zWs_mem (List.mem_of_getElem? (i := 14) (by decide +kernel)) rfl
theorem lvX8_137 : ZLV RX8 137 MX8_takeWord 1 := ⟨⟨tw_585, tw_587, ts_14, tw_88, tw_588⟩, zy_X8_takeWord, Nat.le_of_ble_eq_true rfl⟩
theorem tw_589 : Cond.methodLink RX8 178 yJ0_length_8abf5 ∈ zWs := zWs_mem (List.mem_of_getElem? (i := 589) (by decide +kernel)) rfl
set_option maxRecDepth 20000 in
theorem tw_592 : Cond.code yJ0_length_8abf5 MJ0_length_8abf5.2.1 MJ0_length_8abf5.2.2.1 MJ0_length_8abf5.2.2.2 ∈ zWs := zWs_mem (List.mem_of_getElem? (i := 592) rfl) rfl
theorem tw_102 : Cond.initialized yJ0_length_8abf5.cls ∈ zWs := zWs_mem (List.mem_of_getElem? (i := 102) (by decide +kernel)) rfl
theorem zy_J0_length_8abf5 : zYok MJ0_length_8abf5 0 := ⟨by decide +kernel, by decide +kernel, by decide +kernel⟩
theorem tw_590 : Cond.instanceMethod yJ0_length_8abf5 ∈ zWs := zWs_mem (List.mem_of_getElem? (i := 590) (by decide +kernel)) rfl
theorem tw_591 : Cond.selects yJ0_length_8abf5.cls yJ0_length_8abf5 yJ0_length_8abf5 ∈ zWs := zWs_mem (List.mem_of_getElem? (i := 591) (by decide +kernel)) rfl
theorem lvX8_178 : ZLV RX8 178 MJ0_length_8abf5 0 := ⟨⟨tw_589, tw_590, tw_591, tw_102, tw_592⟩, zy_J0_length_8abf5, Nat.le_of_ble_eq_true rfl⟩
theorem tw_599 : Cond.methodLink RX8 182 yJ0_charAt_5068e ∈ zWs := zWs_mem (List.mem_of_getElem? (i := 599) (by decide +kernel)) rfl
set_option maxRecDepth 20000 in
theorem tw_602 : Cond.code yJ0_charAt_5068e MJ0_charAt_5068e.2.1 MJ0_charAt_5068e.2.2.1 MJ0_charAt_5068e.2.2.2 ∈ zWs := zWs_mem (List.mem_of_getElem? (i := 602) rfl) rfl
theorem zy_J0_charAt_5068e : zYok MJ0_charAt_5068e 1 := ⟨by decide +kernel, by decide +kernel, by decide +kernel⟩
theorem tw_600 : Cond.instanceMethod yJ0_charAt_5068e ∈ zWs := zWs_mem (List.mem_of_getElem? (i := 600) (by decide +kernel)) rfl
theorem tw_601 : Cond.selects yJ0_charAt_5068e.cls yJ0_charAt_5068e yJ0_charAt_5068e ∈ zWs := zWs_mem (List.mem_of_getElem? (i := 601) (by decide +kernel)) rfl
theorem lvX8_182 : ZLV RX8 182 MJ0_charAt_5068e 1 := ⟨⟨tw_599, tw_600, tw_601, tw_102, tw_602⟩, zy_J0_charAt_5068e, Nat.le_of_ble_eq_true rfl⟩
theorem tw_638 : Cond.methodLink RX8 143 yX8_readSum ∈ zWs := zWs_mem (List.mem_of_getElem? (i := 638) (by decide +kernel)) rfl
set_option maxRecDepth 20000 in
theorem tw_641 : Cond.code yX8_readSum MX8_readSum.2.1 MX8_readSum.2.2.1 MX8_readSum.2.2.2 ∈ zWs := zWs_mem (List.mem_of_getElem? (i := 641) rfl) rfl
theorem zy_X8_readSum : zYok MX8_readSum 1 := ⟨by decide +kernel, by decide +kernel, by decide +kernel⟩
theorem tw_640 : Cond.instanceMethod yX8_readSum ∈ zWs := zWs_mem (List.mem_of_getElem? (i := 640) (by decide +kernel)) rfl
theorem ts_15 : Cond.selects yX8_readSum.cls yX8_readSum yX8_readSum ∈ zWs := zWs_mem (List.mem_of_getElem? (i := 15) (by decide +kernel)) rfl
theorem lvX8_143 : ZLV RX8 143 MX8_readSum 1 := ⟨⟨tw_638, tw_640, ts_15, tw_88, tw_641⟩, zy_X8_readSum, Nat.le_of_ble_eq_true rfl⟩
theorem tw_642 : Cond.methodLink RX8 161 yX8_readProduct ∈ zWs := zWs_mem (List.mem_of_getElem? (i := 642) (by decide +kernel)) rfl
set_option maxRecDepth 20000 in
theorem tw_645 : Cond.code yX8_readProduct MX8_readProduct.2.1 MX8_readProduct.2.2.1 MX8_readProduct.2.2.2 ∈ zWs := zWs_mem (List.mem_of_getElem? (i := 645) rfl) rfl
theorem zy_X8_readProduct : zYok MX8_readProduct 1 := ⟨by decide +kernel, by decide +kernel, by decide +kernel⟩
theorem tw_644 : Cond.instanceMethod yX8_readProduct ∈ zWs := zWs_mem (List.mem_of_getElem? (i := 644) (by decide +kernel)) rfl
theorem ts_16 : Cond.selects yX8_readProduct.cls yX8_readProduct yX8_readProduct ∈ zWs := zWs_mem (List.mem_of_getElem? (i := 16) (by decide +kernel)) rfl
theorem lvX8_161 : ZLV RX8 161 MX8_readProduct 1 := ⟨⟨tw_642, tw_644, ts_16, tw_88, tw_645⟩, zy_X8_readProduct, Nat.le_of_ble_eq_true rfl⟩
theorem tw_646 : Cond.methodLink RX8 168 yX8_readFactor ∈ zWs := zWs_mem (List.mem_of_getElem? (i := 646) (by decide +kernel)) rfl
set_option maxRecDepth 20000 in
theorem tw_649 : Cond.code yX8_readFactor MX8_readFactor.2.1 MX8_readFactor.2.2.1 MX8_readFactor.2.2.2 ∈ zWs := zWs_mem (List.mem_of_getElem? (i := 649) rfl) rfl
theorem zy_X8_readFactor : zYok MX8_readFactor 1 := ⟨by decide +kernel, by decide +kernel, by decide +kernel⟩
theorem tw_648 : Cond.instanceMethod yX8_readFactor ∈ zWs := zWs_mem (List.mem_of_getElem? (i := 648) (by decide +kernel)) rfl
theorem ts_17 : Cond.selects yX8_readFactor.cls yX8_readFactor yX8_readFactor ∈ zWs := zWs_mem (List.mem_of_getElem? (i := 17) (by decide +kernel)) rfl
theorem lvX8_168 : ZLV RX8 168 MX8_readFactor 1 := ⟨⟨tw_646, tw_648, ts_17, tw_88, tw_649⟩, zy_X8_readFactor, Nat.le_of_ble_eq_true rfl⟩
theorem tw_650 : Cond.methodLink RX8 164 yX8_keep ∈ zWs := zWs_mem (List.mem_of_getElem? (i := 650) (by decide +kernel)) rfl
set_option maxRecDepth 20000 in
theorem tw_653 : Cond.code yX8_keep MX8_keep.2.1 MX8_keep.2.2.1 MX8_keep.2.2.2 ∈ zWs := zWs_mem (List.mem_of_getElem? (i := 653) rfl) rfl
theorem zy_X8_keep : zYok MX8_keep 2 := ⟨by decide +kernel, by decide +kernel, by decide +kernel⟩
theorem tw_652 : Cond.instanceMethod yX8_keep ∈ zWs := zWs_mem (List.mem_of_getElem? (i := 652) (by decide +kernel)) rfl
theorem ts_18 : Cond.selects yX8_keep.cls yX8_keep yX8_keep ∈ zWs := zWs_mem (List.mem_of_getElem? (i := 18) (by decide +kernel)) rfl
theorem lvX8_164 : ZLV RX8 164 MX8_keep 2 := ⟨⟨tw_650, tw_652, ts_18, tw_88, tw_653⟩, zy_X8_keep, Nat.le_of_ble_eq_true rfl⟩
theorem tw_654 : Cond.methodLink RX8 171 yX8_readNumber ∈ zWs := zWs_mem (List.mem_of_getElem? (i := 654) (by decide +kernel)) rfl
set_option maxRecDepth 20000 in
theorem tw_657 : Cond.code yX8_readNumber MX8_readNumber.2.1 MX8_readNumber.2.2.1 MX8_readNumber.2.2.2 ∈ zWs := zWs_mem (List.mem_of_getElem? (i := 657) rfl) rfl
theorem zy_X8_readNumber : zYok MX8_readNumber 0 := ⟨by decide +kernel, by decide +kernel, by decide +kernel⟩
theorem tw_656 : Cond.instanceMethod yX8_readNumber ∈ zWs := zWs_mem (List.mem_of_getElem? (i := 656) (by decide +kernel)) rfl
theorem ts_19 : Cond.selects yX8_readNumber.cls yX8_readNumber yX8_readNumber ∈ zWs := zWs_mem (List.mem_of_getElem? (i := 19) (by decide +kernel)) rfl
theorem lvX8_171 : ZLV RX8 171 MX8_readNumber 0 := ⟨⟨tw_654, tw_656, ts_19, tw_88, tw_657⟩, zy_X8_readNumber, Nat.le_of_ble_eq_true rfl⟩
theorem tw_664 : Cond.methodLink RX8 146 yJ7_copyOf_59c91 ∈ zWs := zWs_mem (List.mem_of_getElem? (i := 664) (by decide +kernel)) rfl
set_option maxRecDepth 20000 in
theorem tw_666 : Cond.code yJ7_copyOf_59c91 MJ7_copyOf_59c91.2.1 MJ7_copyOf_59c91.2.2.1 MJ7_copyOf_59c91.2.2.2 ∈ zWs := zWs_mem (List.mem_of_getElem? (i := 666) rfl) rfl
theorem tw_107 : Cond.initialized yJ7_copyOf_59c91.cls ∈ zWs := zWs_mem (List.mem_of_getElem? (i := 107) (by decide +kernel)) rfl
theorem zy_J7_copyOf_59c91 : zYok MJ7_copyOf_59c91 2 := ⟨by decide +kernel, by decide +kernel, by decide +kernel⟩
theorem tw_665 : Cond.static yJ7_copyOf_59c91 ∈ zWs := zWs_mem (List.mem_of_getElem? (i := 665) (by decide +kernel)) rfl
theorem lsX8_146 : ZLS RX8 146 MJ7_copyOf_59c91 2 := ⟨⟨tw_664, tw_665, tw_107, tw_666⟩, zy_J7_copyOf_59c91, Nat.le_of_ble_eq_true rfl⟩
theorem tw_680 : Cond.methodLink RX8 152 yJ7_copyOf_33ae4 ∈ zWs := zWs_mem (List.mem_of_getElem? (i := 680) (by decide +kernel)) rfl
set_option maxRecDepth 20000 in
theorem tw_682 : Cond.code yJ7_copyOf_33ae4 MJ7_copyOf_33ae4.2.1 MJ7_copyOf_33ae4.2.2.1 MJ7_copyOf_33ae4.2.2.2 ∈ zWs := zWs_mem (List.mem_of_getElem? (i := 682) rfl) rfl
theorem zy_J7_copyOf_33ae4 : zYok MJ7_copyOf_33ae4 2 := ⟨by decide +kernel, by decide +kernel, by decide +kernel⟩
theorem tw_681 : Cond.static yJ7_copyOf_33ae4 ∈ zWs := zWs_mem (List.mem_of_getElem? (i := 681) (by decide +kernel)) rfl
theorem lsX8_152 : ZLS RX8 152 MJ7_copyOf_33ae4 2 := ⟨⟨tw_680, tw_681, tw_107, tw_682⟩, zy_J7_copyOf_33ae4, Nat.le_of_ble_eq_true rfl⟩
theorem tw_688 : Cond.methodLink RX8 155 yX1_init ∈ zWs := zWs_mem (List.mem_of_getElem? (i := 688) (by decide +kernel)) rfl
set_option maxRecDepth 20000 in
theorem tw_690 : Cond.code yX1_init MX1_init.2.1 MX1_init.2.2.1 MX1_init.2.2.2 ∈ zWs := zWs_mem (List.mem_of_getElem? (i := 690) rfl) rfl
theorem zy_X1_init : zYok MX1_init 5 := ⟨by decide +kernel, by decide +kernel, by decide +kernel⟩
theorem tw_689 : Cond.instanceMethod yX1_init ∈ zWs := zWs_mem (List.mem_of_getElem? (i := 689) (by decide +kernel)) rfl
theorem liX8_155 : ZLI RX8 155 MX1_init 5 := ⟨⟨tw_688, tw_689, tw_106, tw_690⟩, zy_X1_init, Nat.le_of_ble_eq_true rfl, rfl, rfl⟩
theorem tw_691 : Cond.methodLink RX1 1 Lib.objectInit ∈ zWs := zWs_mem (List.mem_of_getElem? (i := 691) (by decide +kernel)) rfl
theorem tw_719 : Cond.methodLink RX8 128 yX8_isAtEnd ∈ zWs := zWs_mem (List.mem_of_getElem? (i := 719) (by decide +kernel)) rfl
set_option maxRecDepth 20000 in
theorem tw_722 : Cond.code yX8_isAtEnd MX8_isAtEnd.2.1 MX8_isAtEnd.2.2.1 MX8_isAtEnd.2.2.2 ∈ zWs := zWs_mem (List.mem_of_getElem? (i := 722) rfl) rfl
theorem zy_X8_isAtEnd : zYok MX8_isAtEnd 0 := ⟨by decide +kernel, by decide +kernel, by decide +kernel⟩
theorem tw_720 : Cond.instanceMethod yX8_isAtEnd ∈ zWs := zWs_mem (List.mem_of_getElem? (i := 720) (by decide +kernel)) rfl
theorem tw_721 : Cond.selects yX8_isAtEnd.cls yX8_isAtEnd yX8_isAtEnd ∈ zWs := zWs_mem (List.mem_of_getElem? (i := 721) (by decide +kernel)) rfl
theorem lvX8_128 : ZLV RX8 128 MX8_isAtEnd 0 := ⟨⟨tw_719, tw_720, tw_721, tw_88, tw_722⟩, zy_X8_isAtEnd, Nat.le_of_ble_eq_true rfl⟩
theorem tw_724 : Cond.methodLink RX9 84 yX5_init ∈ zWs := zWs_mem (List.mem_of_getElem? (i := 724) (by decide +kernel)) rfl
set_option maxRecDepth 20000 in
theorem tw_726 : Cond.code yX5_init MX5_init.2.1 MX5_init.2.2.1 MX5_init.2.2.2 ∈ zWs := zWs_mem (List.mem_of_getElem? (i := 726) rfl) rfl
theorem zy_X5_init : zYok MX5_init 2 := ⟨by decide +kernel, by decide +kernel, by decide +kernel⟩
theorem tw_725 : Cond.instanceMethod yX5_init ∈ zWs := zWs_mem (List.mem_of_getElem? (i := 725) (by decide +kernel)) rfl
theorem liX9_84 : ZLI RX9 84 MX5_init 2 := ⟨⟨tw_724, tw_725, tw_110, tw_726⟩, zy_X5_init, Nat.le_of_ble_eq_true rfl, rfl, rfl⟩
theorem tw_727 : Cond.methodLink RX5 3 Lib.objectInit ∈ zWs := zWs_mem (List.mem_of_getElem? (i := 727) (by decide +kernel)) rfl
theorem tw_740 : Cond.methodLink RL 21 yX9_drop ∈ zWs := zWs_mem (List.mem_of_getElem? (i := 740) (by decide +kernel)) rfl
set_option maxRecDepth 20000 in
theorem tw_743 : Cond.code yX9_drop MX9_drop.2.1 MX9_drop.2.2.1 MX9_drop.2.2.2 ∈ zWs := zWs_mem (List.mem_of_getElem? (i := 743) rfl) rfl
theorem zy_X9_drop : zYok MX9_drop 1 := ⟨by decide +kernel, by decide +kernel, by decide +kernel⟩
theorem tw_741 : Cond.instanceMethod yX9_drop ∈ zWs := zWs_mem (List.mem_of_getElem? (i := 741) (by decide +kernel)) rfl
theorem tw_742 : Cond.selects yX9_drop.cls yX9_drop yX9_drop ∈ zWs := zWs_mem (List.mem_of_getElem? (i := 742) (by decide +kernel)) rfl
theorem lvL_21 : ZLV RL 21 MX9_drop 1 := ⟨⟨tw_740, tw_741, tw_742, tw_87, tw_743⟩, zy_X9_drop, Nat.le_of_ble_eq_true rfl⟩
theorem tw_744 : Cond.methodLink RX9 87 yX9_checkRule ∈ zWs := zWs_mem (List.mem_of_getElem? (i := 744) (by decide +kernel)) rfl
set_option maxRecDepth 20000 in
theorem tw_747 : Cond.code yX9_checkRule MX9_checkRule.2.1 MX9_checkRule.2.2.1 MX9_checkRule.2.2.2 ∈ zWs := zWs_mem (List.mem_of_getElem? (i := 747) rfl) rfl
theorem zy_X9_checkRule : zYok MX9_checkRule 1 := ⟨by decide +kernel, by decide +kernel, by decide +kernel⟩
theorem tw_746 : Cond.instanceMethod yX9_checkRule ∈ zWs := zWs_mem (List.mem_of_getElem? (i := 746) (by decide +kernel)) rfl
theorem ts_20 : Cond.selects yX9_checkRule.cls yX9_checkRule yX9_checkRule ∈ zWs := zWs_mem (List.mem_of_getElem? (i := 20) (by decide +kernel)) rfl
theorem lvX9_87 : ZLV RX9 87 MX9_checkRule 1 := ⟨⟨tw_744, tw_746, ts_20, tw_87, tw_747⟩, zy_X9_checkRule, Nat.le_of_ble_eq_true rfl⟩
theorem tw_766 : Cond.methodLink RL 27 yX9_matches ∈ zWs := zWs_mem (List.mem_of_getElem? (i := 766) (by decide +kernel)) rfl
set_option maxRecDepth 20000 in
theorem tw_769 : Cond.code yX9_matches MX9_matches.2.1 MX9_matches.2.2.1 MX9_matches.2.2.2 ∈ zWs := zWs_mem (List.mem_of_getElem? (i := 769) rfl) rfl
theorem zy_X9_matches : zYok MX9_matches 1 := ⟨by decide +kernel, by decide +kernel, by decide +kernel⟩
theorem tw_767 : Cond.instanceMethod yX9_matches ∈ zWs := zWs_mem (List.mem_of_getElem? (i := 767) (by decide +kernel)) rfl
theorem tw_768 : Cond.selects yX9_matches.cls yX9_matches yX9_matches ∈ zWs := zWs_mem (List.mem_of_getElem? (i := 768) (by decide +kernel)) rfl
theorem lvL_27 : ZLV RL 27 MX9_matches 1 := ⟨⟨tw_766, tw_767, tw_768, tw_87, tw_769⟩, zy_X9_matches, Nat.le_of_ble_eq_true rfl⟩
theorem tw_770 : Cond.methodLink RX9 90 yX9_checkElement ∈ zWs := zWs_mem (List.mem_of_getElem? (i := 770) (by decide +kernel)) rfl
set_option maxRecDepth 20000 in
theorem tw_773 : Cond.code yX9_checkElement MX9_checkElement.2.1 MX9_checkElement.2.2.1 MX9_checkElement.2.2.2 ∈ zWs := zWs_mem (List.mem_of_getElem? (i := 773) rfl) rfl
theorem zy_X9_checkElement : zYok MX9_checkElement 1 := ⟨by decide +kernel, by decide +kernel, by decide +kernel⟩
theorem tw_772 : Cond.instanceMethod yX9_checkElement ∈ zWs := zWs_mem (List.mem_of_getElem? (i := 772) (by decide +kernel)) rfl
theorem ts_21 : Cond.selects yX9_checkElement.cls yX9_checkElement yX9_checkElement ∈ zWs := zWs_mem (List.mem_of_getElem? (i := 21) (by decide +kernel)) rfl
theorem lvX9_90 : ZLV RX9 90 MX9_checkElement 1 := ⟨⟨tw_770, tw_772, ts_21, tw_87, tw_773⟩, zy_X9_checkElement, Nat.le_of_ble_eq_true rfl⟩
theorem tw_774 : Cond.methodLink RX9 93 yX8_isAtEnd ∈ zWs := zWs_mem (List.mem_of_getElem? (i := 774) (by decide +kernel)) rfl
theorem lvX9_93 : ZLV RX9 93 MX8_isAtEnd 0 := ⟨⟨tw_774, tw_720, tw_721, tw_88, tw_722⟩, zy_X8_isAtEnd, Nat.le_of_ble_eq_true rfl⟩
theorem tw_775 : Cond.methodLink RX9 97 yX6_meet ∈ zWs := zWs_mem (List.mem_of_getElem? (i := 775) (by decide +kernel)) rfl
set_option maxRecDepth 20000 in
theorem tw_778 : Cond.code yX6_meet MX6_meet.2.1 MX6_meet.2.2.1 MX6_meet.2.2.2 ∈ zWs := zWs_mem (List.mem_of_getElem? (i := 778) rfl) rfl
theorem zy_X6_meet : zYok MX6_meet 2 := ⟨by decide +kernel, by decide +kernel, by decide +kernel⟩
theorem tw_776 : Cond.instanceMethod yX6_meet ∈ zWs := zWs_mem (List.mem_of_getElem? (i := 776) (by decide +kernel)) rfl
theorem tw_777 : Cond.selects yX6_meet.cls yX6_meet yX6_meet ∈ zWs := zWs_mem (List.mem_of_getElem? (i := 777) (by decide +kernel)) rfl
theorem lvX9_97 : ZLV RX9 97 MX6_meet 2 := ⟨⟨tw_775, tw_776, tw_777, tw_101, tw_778⟩, zy_X6_meet, Nat.le_of_ble_eq_true rfl⟩
theorem tw_779 : Cond.methodLink RX6 29 yX2_related ∈ zWs := zWs_mem (List.mem_of_getElem? (i := 779) (by decide +kernel)) rfl
set_option maxRecDepth 20000 in
theorem tw_782 : Cond.code yX2_related MX2_related.2.1 MX2_related.2.2.1 MX2_related.2.2.2 ∈ zWs := zWs_mem (List.mem_of_getElem? (i := 782) rfl) rfl
theorem zy_X2_related : zYok MX2_related 1 := ⟨by decide +kernel, by decide +kernel, by decide +kernel⟩
theorem tw_780 : Cond.instanceMethod yX2_related ∈ zWs := zWs_mem (List.mem_of_getElem? (i := 780) (by decide +kernel)) rfl
theorem tw_781 : Cond.selects yX2_related.cls yX2_related yX2_related ∈ zWs := zWs_mem (List.mem_of_getElem? (i := 781) (by decide +kernel)) rfl
theorem lvX6_29 : ZLV RX6 29 MX2_related 1 := ⟨⟨tw_779, tw_780, tw_781, tw_96, tw_782⟩, zy_X2_related, Nat.le_of_ble_eq_true rfl⟩
theorem tw_783 : Cond.methodLink RX6 35 yX0_fits ∈ zWs := zWs_mem (List.mem_of_getElem? (i := 783) (by decide +kernel)) rfl
set_option maxRecDepth 20000 in
theorem tw_786 : Cond.code yX0_fits MX0_fits.2.1 MX0_fits.2.2.1 MX0_fits.2.2.2 ∈ zWs := zWs_mem (List.mem_of_getElem? (i := 786) rfl) rfl
theorem zy_X0_fits : zYok MX0_fits 1 := ⟨by decide +kernel, by decide +kernel, by decide +kernel⟩
theorem tw_784 : Cond.instanceMethod yX0_fits ∈ zWs := zWs_mem (List.mem_of_getElem? (i := 784) (by decide +kernel)) rfl
theorem tw_785 : Cond.selects yX0_fits.cls yX0_fits yX0_fits ∈ zWs := zWs_mem (List.mem_of_getElem? (i := 785) (by decide +kernel)) rfl
theorem lvX6_35 : ZLV RX6 35 MX0_fits 1 := ⟨⟨tw_783, tw_784, tw_785, tw_99, tw_786⟩, zy_X0_fits, Nat.le_of_ble_eq_true rfl⟩
theorem tw_787 : Cond.methodLink RX0 37 yX0_fitsBare ∈ zWs := zWs_mem (List.mem_of_getElem? (i := 787) (by decide +kernel)) rfl
set_option maxRecDepth 20000 in
theorem tw_790 : Cond.code yX0_fitsBare MX0_fitsBare.2.1 MX0_fitsBare.2.2.1 MX0_fitsBare.2.2.2 ∈ zWs := zWs_mem (List.mem_of_getElem? (i := 790) rfl) rfl
theorem zy_X0_fitsBare : zYok MX0_fitsBare 1 := ⟨by decide +kernel, by decide +kernel, by decide +kernel⟩
theorem tw_789 : Cond.instanceMethod yX0_fitsBare ∈ zWs := zWs_mem (List.mem_of_getElem? (i := 789) (by decide +kernel)) rfl
theorem ts_22 : Cond.selects yX0_fitsBare.cls yX0_fitsBare yX0_fitsBare ∈ zWs := zWs_mem (List.mem_of_getElem? (i := 22) (by decide +kernel)) rfl
theorem lvX0_37 : ZLV RX0 37 MX0_fitsBare 1 := ⟨⟨tw_787, tw_789, ts_22, tw_99, tw_790⟩, zy_X0_fitsBare, Nat.le_of_ble_eq_true rfl⟩
theorem tw_791 : Cond.methodLink RX0 44 yX3_holds ∈ zWs := zWs_mem (List.mem_of_getElem? (i := 791) (by decide +kernel)) rfl
set_option maxRecDepth 20000 in
theorem tw_794 : Cond.code yX3_holds MX3_holds.2.1 MX3_holds.2.2.1 MX3_holds.2.2.2 ∈ zWs := zWs_mem (List.mem_of_getElem? (i := 794) rfl) rfl
theorem zy_X3_holds : zYok MX3_holds 1 := ⟨by decide +kernel, by decide +kernel, by decide +kernel⟩
theorem tw_792 : Cond.instanceMethod yX3_holds ∈ zWs := zWs_mem (List.mem_of_getElem? (i := 792) (by decide +kernel)) rfl
theorem tw_793 : Cond.selects yX3_holds.cls yX3_holds yX3_holds ∈ zWs := zWs_mem (List.mem_of_getElem? (i := 793) (by decide +kernel)) rfl
theorem lvX0_44 : ZLV RX0 44 MX3_holds 1 := ⟨⟨tw_791, tw_792, tw_793, tw_100, tw_794⟩, zy_X3_holds, Nat.le_of_ble_eq_true rfl⟩
theorem tw_795 : Cond.methodLink RX3 31 yX2_isLast ∈ zWs := zWs_mem (List.mem_of_getElem? (i := 795) (by decide +kernel)) rfl
set_option maxRecDepth 20000 in
theorem tw_798 : Cond.code yX2_isLast MX2_isLast.2.1 MX2_isLast.2.2.1 MX2_isLast.2.2.2 ∈ zWs := zWs_mem (List.mem_of_getElem? (i := 798) rfl) rfl
theorem zy_X2_isLast : zYok MX2_isLast 0 := ⟨by decide +kernel, by decide +kernel, by decide +kernel⟩
theorem tw_796 : Cond.instanceMethod yX2_isLast ∈ zWs := zWs_mem (List.mem_of_getElem? (i := 796) (by decide +kernel)) rfl
theorem tw_797 : Cond.selects yX2_isLast.cls yX2_isLast yX2_isLast ∈ zWs := zWs_mem (List.mem_of_getElem? (i := 797) (by decide +kernel)) rfl
theorem lvX3_31 : ZLV RX3 31 MX2_isLast 0 := ⟨⟨tw_795, tw_796, tw_797, tw_96, tw_798⟩, zy_X2_isLast, Nat.le_of_ble_eq_true rfl⟩
theorem tw_799 : Cond.methodLink RX3 38 yX3_isReached ∈ zWs := zWs_mem (List.mem_of_getElem? (i := 799) (by decide +kernel)) rfl
set_option maxRecDepth 20000 in
theorem tw_802 : Cond.code yX3_isReached MX3_isReached.2.1 MX3_isReached.2.2.1 MX3_isReached.2.2.2 ∈ zWs := zWs_mem (List.mem_of_getElem? (i := 802) rfl) rfl
theorem zy_X3_isReached : zYok MX3_isReached 1 := ⟨by decide +kernel, by decide +kernel, by decide +kernel⟩
theorem tw_801 : Cond.instanceMethod yX3_isReached ∈ zWs := zWs_mem (List.mem_of_getElem? (i := 801) (by decide +kernel)) rfl
theorem ts_23 : Cond.selects yX3_isReached.cls yX3_isReached yX3_isReached ∈ zWs := zWs_mem (List.mem_of_getElem? (i := 23) (by decide +kernel)) rfl
theorem lvX3_38 : ZLV RX3 38 MX3_isReached 1 := ⟨⟨tw_799, tw_801, ts_23, tw_100, tw_802⟩, zy_X3_isReached, Nat.le_of_ble_eq_true rfl⟩
theorem tw_806 : Cond.methodLink RL 31 yX9_weight ∈ zWs := zWs_mem (List.mem_of_getElem? (i := 806) (by decide +kernel)) rfl
set_option maxRecDepth 20000 in
theorem tw_809 : Cond.code yX9_weight MX9_weight.2.1 MX9_weight.2.2.1 MX9_weight.2.2.2 ∈ zWs := zWs_mem (List.mem_of_getElem? (i := 809) rfl) rfl
theorem zy_X9_weight : zYok MX9_weight 2 := ⟨by decide +kernel, by decide +kernel, by decide +kernel⟩
theorem tw_807 : Cond.instanceMethod yX9_weight ∈ zWs := zWs_mem (List.mem_of_getElem? (i := 807) (by decide +kernel)) rfl
theorem tw_808 : Cond.selects yX9_weight.cls yX9_weight yX9_weight ∈ zWs := zWs_mem (List.mem_of_getElem? (i := 808) (by decide +kernel)) rfl
theorem lvL_31 : ZLV RL 31 MX9_weight 2 := ⟨⟨tw_806, tw_807, tw_808, tw_87, tw_809⟩, zy_X9_weight, Nat.le_of_ble_eq_true rfl⟩
theorem tw_810 : Cond.methodLink RX9 110 yX9_catchUp ∈ zWs := zWs_mem (List.mem_of_getElem? (i := 810) (by decide +kernel)) rfl
set_option maxRecDepth 20000 in
theorem tw_813 : Cond.code yX9_catchUp MX9_catchUp.2.1 MX9_catchUp.2.2.1 MX9_catchUp.2.2.2 ∈ zWs := zWs_mem (List.mem_of_getElem? (i := 813) rfl) rfl
theorem zy_X9_catchUp : zYok MX9_catchUp 0 := ⟨by decide +kernel, by decide +kernel, by decide +kernel⟩
theorem tw_812 : Cond.instanceMethod yX9_catchUp ∈ zWs := zWs_mem (List.mem_of_getElem? (i := 812) (by decide +kernel)) rfl
theorem ts_24 : Cond.selects yX9_catchUp.cls yX9_catchUp yX9_catchUp ∈ zWs := zWs_mem (List.mem_of_getElem? (i := 24) (by decide +kernel)) rfl
theorem lvX9_110 : ZLV RX9 110 MX9_catchUp 0 := ⟨⟨tw_810, tw_812, ts_24, tw_87, tw_813⟩, zy_X9_catchUp, Nat.le_of_ble_eq_true rfl⟩
theorem tw_814 : Cond.methodLink RX9 149 yX7_clear ∈ zWs := zWs_mem (List.mem_of_getElem? (i := 814) (by decide +kernel)) rfl
set_option maxRecDepth 20000 in
theorem tw_817 : Cond.code yX7_clear MX7_clear.2.1 MX7_clear.2.2.1 MX7_clear.2.2.2 ∈ zWs := zWs_mem (List.mem_of_getElem? (i := 817) rfl) rfl
theorem zy_X7_clear : zYok MX7_clear 0 := ⟨by decide +kernel, by decide +kernel, by decide +kernel⟩
theorem tw_815 : Cond.instanceMethod yX7_clear ∈ zWs := zWs_mem (List.mem_of_getElem? (i := 815) (by decide +kernel)) rfl
theorem tw_816 : Cond.selects yX7_clear.cls yX7_clear yX7_clear ∈ zWs := zWs_mem (List.mem_of_getElem? (i := 816) (by decide +kernel)) rfl
theorem lvX9_149 : ZLV RX9 149 MX7_clear 0 := ⟨⟨tw_814, tw_815, tw_816, tw_98, tw_817⟩, zy_X7_clear, Nat.le_of_ble_eq_true rfl⟩
theorem tw_818 : Cond.methodLink RX7 37 yJ7_fill_53178 ∈ zWs := zWs_mem (List.mem_of_getElem? (i := 818) (by decide +kernel)) rfl
set_option maxRecDepth 20000 in
theorem tw_820 : Cond.code yJ7_fill_53178 MJ7_fill_53178.2.1 MJ7_fill_53178.2.2.1 MJ7_fill_53178.2.2.2 ∈ zWs := zWs_mem (List.mem_of_getElem? (i := 820) rfl) rfl
theorem zy_J7_fill_53178 : zYok MJ7_fill_53178 2 := ⟨by decide +kernel, by decide +kernel, by decide +kernel⟩
theorem tw_819 : Cond.static yJ7_fill_53178 ∈ zWs := zWs_mem (List.mem_of_getElem? (i := 819) (by decide +kernel)) rfl
theorem lsX7_37 : ZLS RX7 37 MJ7_fill_53178 2 := ⟨⟨tw_818, tw_819, tw_107, tw_820⟩, zy_J7_fill_53178, Nat.le_of_ble_eq_true rfl⟩
theorem tw_821 : Cond.methodLink RX9 152 yX5_meet ∈ zWs := zWs_mem (List.mem_of_getElem? (i := 821) (by decide +kernel)) rfl
set_option maxRecDepth 20000 in
theorem tw_824 : Cond.code yX5_meet MX5_meet.2.1 MX5_meet.2.2.1 MX5_meet.2.2.2 ∈ zWs := zWs_mem (List.mem_of_getElem? (i := 824) rfl) rfl
theorem zy_X5_meet : zYok MX5_meet 2 := ⟨by decide +kernel, by decide +kernel, by decide +kernel⟩
theorem tw_822 : Cond.instanceMethod yX5_meet ∈ zWs := zWs_mem (List.mem_of_getElem? (i := 822) (by decide +kernel)) rfl
theorem tw_823 : Cond.selects yX5_meet.cls yX5_meet yX5_meet ∈ zWs := zWs_mem (List.mem_of_getElem? (i := 823) (by decide +kernel)) rfl
theorem lvX9_152 : ZLV RX9 152 MX5_meet 2 := ⟨⟨tw_821, tw_822, tw_823, tw_110, tw_824⟩, zy_X5_meet, Nat.le_of_ble_eq_true rfl⟩
theorem tw_825 : Cond.methodLink RX5 19 yX6_meet ∈ zWs := zWs_mem (List.mem_of_getElem? (i := 825) (by decide +kernel)) rfl
theorem lvX5_19 : ZLV RX5 19 MX6_meet 2 := ⟨⟨tw_825, tw_776, tw_777, tw_101, tw_778⟩, zy_X6_meet, Nat.le_of_ble_eq_true rfl⟩
theorem tw_826 : Cond.methodLink RX9 153 yX9_enter ∈ zWs := zWs_mem (List.mem_of_getElem? (i := 826) (by decide +kernel)) rfl
set_option maxRecDepth 20000 in
theorem tw_829 : Cond.code yX9_enter MX9_enter.2.1 MX9_enter.2.2.1 MX9_enter.2.2.2 ∈ zWs := zWs_mem (List.mem_of_getElem? (i := 829) rfl) rfl
theorem zy_X9_enter : zYok MX9_enter 2 := ⟨by decide +kernel, by decide +kernel, by decide +kernel⟩
theorem tw_828 : Cond.instanceMethod yX9_enter ∈ zWs := zWs_mem (List.mem_of_getElem? (i := 828) (by decide +kernel)) rfl
theorem ts_25 : Cond.selects yX9_enter.cls yX9_enter yX9_enter ∈ zWs := zWs_mem (List.mem_of_getElem? (i := 25) (by decide +kernel)) rfl
theorem lvX9_153 : ZLV RX9 153 MX9_enter 2 := ⟨⟨tw_826, tw_828, ts_25, tw_87, tw_829⟩, zy_X9_enter, Nat.le_of_ble_eq_true rfl⟩
theorem tw_830 : Cond.methodLink RX9 113 yX5_heaviest ∈ zWs := zWs_mem (List.mem_of_getElem? (i := 830) (by decide +kernel)) rfl
set_option maxRecDepth 20000 in
theorem tw_833 : Cond.code yX5_heaviest MX5_heaviest.2.1 MX5_heaviest.2.2.1 MX5_heaviest.2.2.2 ∈ zWs := zWs_mem (List.mem_of_getElem? (i := 833) rfl) rfl
theorem zy_X5_heaviest : zYok MX5_heaviest 1 := ⟨by decide +kernel, by decide +kernel, by decide +kernel⟩
theorem tw_831 : Cond.instanceMethod yX5_heaviest ∈ zWs := zWs_mem (List.mem_of_getElem? (i := 831) (by decide +kernel)) rfl
theorem tw_832 : Cond.selects yX5_heaviest.cls yX5_heaviest yX5_heaviest ∈ zWs := zWs_mem (List.mem_of_getElem? (i := 832) (by decide +kernel)) rfl
theorem lvX9_113 : ZLV RX9 113 MX5_heaviest 1 := ⟨⟨tw_830, tw_831, tw_832, tw_110, tw_833⟩, zy_X5_heaviest, Nat.le_of_ble_eq_true rfl⟩
theorem tw_834 : Cond.methodLink RX5 35 yJ9_max_7cf53 ∈ zWs := zWs_mem (List.mem_of_getElem? (i := 834) (by decide +kernel)) rfl
set_option maxRecDepth 20000 in
theorem tw_836 : Cond.code yJ9_max_7cf53 MJ9_max_7cf53.2.1 MJ9_max_7cf53.2.2.1 MJ9_max_7cf53.2.2.2 ∈ zWs := zWs_mem (List.mem_of_getElem? (i := 836) rfl) rfl
theorem tw_108 : Cond.initialized yJ9_max_7cf53.cls ∈ zWs := zWs_mem (List.mem_of_getElem? (i := 108) (by decide +kernel)) rfl
theorem zy_J9_max_7cf53 : zYok MJ9_max_7cf53 2 := ⟨by decide +kernel, by decide +kernel, by decide +kernel⟩
theorem tw_835 : Cond.static yJ9_max_7cf53 ∈ zWs := zWs_mem (List.mem_of_getElem? (i := 835) (by decide +kernel)) rfl
theorem lsX5_35 : ZLS RX5 35 MJ9_max_7cf53 2 := ⟨⟨tw_834, tw_835, tw_108, tw_836⟩, zy_J9_max_7cf53, Nat.le_of_ble_eq_true rfl⟩
theorem tw_837 : Cond.methodLink RX9 161 yX7_offer ∈ zWs := zWs_mem (List.mem_of_getElem? (i := 837) (by decide +kernel)) rfl
set_option maxRecDepth 20000 in
theorem tw_840 : Cond.code yX7_offer MX7_offer.2.1 MX7_offer.2.2.1 MX7_offer.2.2.2 ∈ zWs := zWs_mem (List.mem_of_getElem? (i := 840) rfl) rfl
theorem zy_X7_offer : zYok MX7_offer 3 := ⟨by decide +kernel, by decide +kernel, by decide +kernel⟩
theorem tw_838 : Cond.instanceMethod yX7_offer ∈ zWs := zWs_mem (List.mem_of_getElem? (i := 838) (by decide +kernel)) rfl
theorem tw_839 : Cond.selects yX7_offer.cls yX7_offer yX7_offer ∈ zWs := zWs_mem (List.mem_of_getElem? (i := 839) (by decide +kernel)) rfl
theorem lvX9_161 : ZLV RX9 161 MX7_offer 3 := ⟨⟨tw_837, tw_838, tw_839, tw_98, tw_840⟩, zy_X7_offer, Nat.le_of_ble_eq_true rfl⟩
theorem tw_844 : Cond.methodLink RL 35 yX9_winner ∈ zWs := zWs_mem (List.mem_of_getElem? (i := 844) (by decide +kernel)) rfl
set_option maxRecDepth 20000 in
theorem tw_847 : Cond.code yX9_winner MX9_winner.2.1 MX9_winner.2.2.1 MX9_winner.2.2.2 ∈ zWs := zWs_mem (List.mem_of_getElem? (i := 847) rfl) rfl
theorem zy_X9_winner : zYok MX9_winner 2 := ⟨by decide +kernel, by decide +kernel, by decide +kernel⟩
theorem tw_845 : Cond.instanceMethod yX9_winner ∈ zWs := zWs_mem (List.mem_of_getElem? (i := 845) (by decide +kernel)) rfl
theorem tw_846 : Cond.selects yX9_winner.cls yX9_winner yX9_winner ∈ zWs := zWs_mem (List.mem_of_getElem? (i := 846) (by decide +kernel)) rfl
theorem lvL_35 : ZLV RL 35 MX9_winner 2 := ⟨⟨tw_844, tw_845, tw_846, tw_87, tw_847⟩, zy_X9_winner, Nat.le_of_ble_eq_true rfl⟩
theorem tw_848 : Cond.methodLink RX9 117 yX9_checkName ∈ zWs := zWs_mem (List.mem_of_getElem? (i := 848) (by decide +kernel)) rfl
set_option maxRecDepth 20000 in
theorem tw_851 : Cond.code yX9_checkName MX9_checkName.2.1 MX9_checkName.2.2.1 MX9_checkName.2.2.2 ∈ zWs := zWs_mem (List.mem_of_getElem? (i := 851) rfl) rfl
theorem zy_X9_checkName : zYok MX9_checkName 2 := ⟨by decide +kernel, by decide +kernel, by decide +kernel⟩
theorem tw_850 : Cond.instanceMethod yX9_checkName ∈ zWs := zWs_mem (List.mem_of_getElem? (i := 850) (by decide +kernel)) rfl
theorem ts_26 : Cond.selects yX9_checkName.cls yX9_checkName yX9_checkName ∈ zWs := zWs_mem (List.mem_of_getElem? (i := 26) (by decide +kernel)) rfl
theorem lvX9_117 : ZLV RX9 117 MX9_checkName 2 := ⟨⟨tw_848, tw_850, ts_26, tw_87, tw_851⟩, zy_X9_checkName, Nat.le_of_ble_eq_true rfl⟩
theorem tw_852 : Cond.methodLink RX9 125 yX7_leadingRule ∈ zWs := zWs_mem (List.mem_of_getElem? (i := 852) (by decide +kernel)) rfl
set_option maxRecDepth 20000 in
theorem tw_855 : Cond.code yX7_leadingRule MX7_leadingRule.2.1 MX7_leadingRule.2.2.1 MX7_leadingRule.2.2.2 ∈ zWs := zWs_mem (List.mem_of_getElem? (i := 855) rfl) rfl
theorem zy_X7_leadingRule : zYok MX7_leadingRule 1 := ⟨by decide +kernel, by decide +kernel, by decide +kernel⟩
theorem tw_853 : Cond.instanceMethod yX7_leadingRule ∈ zWs := zWs_mem (List.mem_of_getElem? (i := 853) (by decide +kernel)) rfl
theorem tw_854 : Cond.selects yX7_leadingRule.cls yX7_leadingRule yX7_leadingRule ∈ zWs := zWs_mem (List.mem_of_getElem? (i := 854) (by decide +kernel)) rfl
theorem lvX9_125 : ZLV RX9 125 MX7_leadingRule 1 := ⟨⟨tw_852, tw_853, tw_854, tw_98, tw_855⟩, zy_X7_leadingRule, Nat.le_of_ble_eq_true rfl⟩
theorem tw_859 : Cond.methodLink RL 38 yX9_value ∈ zWs := zWs_mem (List.mem_of_getElem? (i := 859) (by decide +kernel)) rfl
set_option maxRecDepth 20000 in
theorem tw_862 : Cond.code yX9_value MX9_value.2.1 MX9_value.2.2.1 MX9_value.2.2.2 ∈ zWs := zWs_mem (List.mem_of_getElem? (i := 862) rfl) rfl
theorem zy_X9_value : zYok MX9_value 2 := ⟨by decide +kernel, by decide +kernel, by decide +kernel⟩
theorem tw_860 : Cond.instanceMethod yX9_value ∈ zWs := zWs_mem (List.mem_of_getElem? (i := 860) (by decide +kernel)) rfl
theorem tw_861 : Cond.selects yX9_value.cls yX9_value yX9_value ∈ zWs := zWs_mem (List.mem_of_getElem? (i := 861) (by decide +kernel)) rfl
theorem lvL_38 : ZLV RL 38 MX9_value 2 := ⟨⟨tw_859, tw_860, tw_861, tw_87, tw_862⟩, zy_X9_value, Nat.le_of_ble_eq_true rfl⟩
theorem tw_863 : Cond.methodLink RX9 130 yX4_settle ∈ zWs := zWs_mem (List.mem_of_getElem? (i := 863) (by decide +kernel)) rfl
set_option maxRecDepth 20000 in
theorem tw_866 : Cond.code yX4_settle MX4_settle.2.1 MX4_settle.2.2.1 MX4_settle.2.2.2 ∈ zWs := zWs_mem (List.mem_of_getElem? (i := 866) rfl) rfl
theorem zy_X4_settle : zYok MX4_settle 2 := ⟨by decide +kernel, by decide +kernel, by decide +kernel⟩
theorem tw_864 : Cond.instanceMethod yX4_settle ∈ zWs := zWs_mem (List.mem_of_getElem? (i := 864) (by decide +kernel)) rfl
theorem tw_865 : Cond.selects yX4_settle.cls yX4_settle yX4_settle ∈ zWs := zWs_mem (List.mem_of_getElem? (i := 865) (by decide +kernel)) rfl
theorem lvX9_130 : ZLV RX9 130 MX4_settle 2 := ⟨⟨tw_863, tw_864, tw_865, tw_89, tw_866⟩, zy_X4_settle, Nat.le_of_ble_eq_true rfl⟩
theorem tw_867 : Cond.methodLink RX4 35 yX4_settleAt ∈ zWs := zWs_mem (List.mem_of_getElem? (i := 867) (by decide +kernel)) rfl
set_option maxRecDepth 20000 in
theorem tw_870 : Cond.code yX4_settleAt MX4_settleAt.2.1 MX4_settleAt.2.2.1 MX4_settleAt.2.2.2 ∈ zWs := zWs_mem (List.mem_of_getElem? (i := 870) rfl) rfl
theorem zy_X4_settleAt : zYok MX4_settleAt 2 := ⟨by decide +kernel, by decide +kernel, by decide +kernel⟩
theorem tw_869 : Cond.instanceMethod yX4_settleAt ∈ zWs := zWs_mem (List.mem_of_getElem? (i := 869) (by decide +kernel)) rfl
theorem ts_27 : Cond.selects yX4_settleAt.cls yX4_settleAt yX4_settleAt ∈ zWs := zWs_mem (List.mem_of_getElem? (i := 27) (by decide +kernel)) rfl
theorem lvX4_35 : ZLV RX4 35 MX4_settleAt 2 := ⟨⟨tw_867, tw_869, ts_27, tw_89, tw_870⟩, zy_X4_settleAt, Nat.le_of_ble_eq_true rfl⟩
theorem tw_872 : Cond.methodLink RX4 62 yX4_setUnits ∈ zWs := zWs_mem (List.mem_of_getElem? (i := 872) (by decide +kernel)) rfl
set_option maxRecDepth 20000 in
theorem tw_875 : Cond.code yX4_setUnits MX4_setUnits.2.1 MX4_setUnits.2.2.1 MX4_setUnits.2.2.2 ∈ zWs := zWs_mem (List.mem_of_getElem? (i := 875) rfl) rfl
theorem zy_X4_setUnits : zYok MX4_setUnits 2 := ⟨by decide +kernel, by decide +kernel, by decide +kernel⟩
theorem tw_874 : Cond.instanceMethod yX4_setUnits ∈ zWs := zWs_mem (List.mem_of_getElem? (i := 874) (by decide +kernel)) rfl
theorem ts_28 : Cond.selects yX4_setUnits.cls yX4_setUnits yX4_setUnits ∈ zWs := zWs_mem (List.mem_of_getElem? (i := 28) (by decide +kernel)) rfl
theorem lvX4_62 : ZLV RX4 62 MX4_setUnits 2 := ⟨⟨tw_872, tw_874, ts_28, tw_89, tw_875⟩, zy_X4_setUnits, Nat.le_of_ble_eq_true rfl⟩
theorem tw_876 : Cond.methodLink RX4 65 yX4_workOut ∈ zWs := zWs_mem (List.mem_of_getElem? (i := 876) (by decide +kernel)) rfl
set_option maxRecDepth 20000 in
theorem tw_879 : Cond.code yX4_workOut MX4_workOut.2.1 MX4_workOut.2.2.1 MX4_workOut.2.2.2 ∈ zWs := zWs_mem (List.mem_of_getElem? (i := 879) rfl) rfl
theorem zy_X4_workOut : zYok MX4_workOut 2 := ⟨by decide +kernel, by decide +kernel, by decide +kernel⟩
theorem tw_878 : Cond.instanceMethod yX4_workOut ∈ zWs := zWs_mem (List.mem_of_getElem? (i := 878) (by decide +kernel)) rfl
theorem ts_29 : Cond.selects yX4_workOut.cls yX4_workOut yX4_workOut ∈ zWs := zWs_mem (List.mem_of_getElem? (i := 29) (by decide +kernel)) rfl
theorem lvX4_65 : ZLV RX4 65 MX4_workOut 2 := ⟨⟨tw_876, tw_878, ts_29, tw_89, tw_879⟩, zy_X4_workOut, Nat.le_of_ble_eq_true rfl⟩
theorem tw_880 : Cond.methodLink RX4 82 yJ7_fill_53178 ∈ zWs := zWs_mem (List.mem_of_getElem? (i := 880) (by decide +kernel)) rfl
theorem lsX4_82 : ZLS RX4 82 MJ7_fill_53178 2 := ⟨⟨tw_880, tw_819, tw_107, tw_820⟩, zy_J7_fill_53178, Nat.le_of_ble_eq_true rfl⟩
theorem tw_881 : Cond.methodLink RX4 91 yX4_pass ∈ zWs := zWs_mem (List.mem_of_getElem? (i := 881) (by decide +kernel)) rfl
set_option maxRecDepth 20000 in
theorem tw_884 : Cond.code yX4_pass MX4_pass.2.1 MX4_pass.2.2.1 MX4_pass.2.2.2 ∈ zWs := zWs_mem (List.mem_of_getElem? (i := 884) rfl) rfl
theorem zy_X4_pass : zYok MX4_pass 2 := ⟨by decide +kernel, by decide +kernel, by decide +kernel⟩
theorem tw_883 : Cond.instanceMethod yX4_pass ∈ zWs := zWs_mem (List.mem_of_getElem? (i := 883) (by decide +kernel)) rfl
theorem ts_30 : Cond.selects yX4_pass.cls yX4_pass yX4_pass ∈ zWs := zWs_mem (List.mem_of_getElem? (i := 30) (by decide +kernel)) rfl
theorem lvX4_91 : ZLV RX4 91 MX4_pass 2 := ⟨⟨tw_881, tw_883, ts_30, tw_89, tw_884⟩, zy_X4_pass, Nat.le_of_ble_eq_true rfl⟩
theorem tw_885 : Cond.methodLink RX4 104 yX4_find ∈ zWs := zWs_mem (List.mem_of_getElem? (i := 885) (by decide +kernel)) rfl
set_option maxRecDepth 20000 in
theorem tw_888 : Cond.code yX4_find MX4_find.2.1 MX4_find.2.2.1 MX4_find.2.2.2 ∈ zWs := zWs_mem (List.mem_of_getElem? (i := 888) rfl) rfl
theorem zy_X4_find : zYok MX4_find 2 := ⟨by decide +kernel, by decide +kernel, by decide +kernel⟩
theorem tw_887 : Cond.instanceMethod yX4_find ∈ zWs := zWs_mem (List.mem_of_getElem? (i := 887) (by decide +kernel)) rfl
theorem ts_31 : Cond.selects yX4_find.cls yX4_find yX4_find ∈ zWs := zWs_mem (List.mem_of_getElem? (i := 31) (by decide +kernel)) rfl
theorem lvX4_104 : ZLV RX4 104 MX4_find 2 := ⟨⟨tw_885, tw_887, ts_31, tw_89, tw_888⟩, zy_X4_find, Nat.le_of_ble_eq_true rfl⟩
theorem tw_889 : Cond.methodLink RX4 108 yX4_open ∈ zWs := zWs_mem (List.mem_of_getElem? (i := 889) (by decide +kernel)) rfl
set_option maxRecDepth 20000 in
theorem tw_892 : Cond.code yX4_open MX4_open.2.1 MX4_open.2.2.1 MX4_open.2.2.2 ∈ zWs := zWs_mem (List.mem_of_getElem? (i := 892) rfl) rfl
theorem zy_X4_open : zYok MX4_open 2 := ⟨by decide +kernel, by decide +kernel, by decide +kernel⟩
theorem tw_891 : Cond.instanceMethod yX4_open ∈ zWs := zWs_mem (List.mem_of_getElem? (i := 891) (by decide +kernel)) rfl
theorem ts_32 : Cond.selects yX4_open.cls yX4_open yX4_open ∈ zWs := zWs_mem (List.mem_of_getElem? (i := 32) (by decide +kernel)) rfl
theorem lvX4_108 : ZLV RX4 108 MX4_open 2 := ⟨⟨tw_889, tw_891, ts_32, tw_89, tw_892⟩, zy_X4_open, Nat.le_of_ble_eq_true rfl⟩
theorem tw_893 : Cond.methodLink RX4 112 yX4_push ∈ zWs := zWs_mem (List.mem_of_getElem? (i := 893) (by decide +kernel)) rfl
set_option maxRecDepth 20000 in
theorem tw_896 : Cond.code yX4_push MX4_push.2.1 MX4_push.2.2.1 MX4_push.2.2.2 ∈ zWs := zWs_mem (List.mem_of_getElem? (i := 896) rfl) rfl
theorem zy_X4_push : zYok MX4_push 2 := ⟨by decide +kernel, by decide +kernel, by decide +kernel⟩
theorem tw_895 : Cond.instanceMethod yX4_push ∈ zWs := zWs_mem (List.mem_of_getElem? (i := 895) (by decide +kernel)) rfl
theorem ts_33 : Cond.selects yX4_push.cls yX4_push yX4_push ∈ zWs := zWs_mem (List.mem_of_getElem? (i := 33) (by decide +kernel)) rfl
theorem lvX4_112 : ZLV RX4 112 MX4_push 2 := ⟨⟨tw_893, tw_895, ts_33, tw_89, tw_896⟩, zy_X4_push, Nat.le_of_ble_eq_true rfl⟩
theorem tw_899 : Cond.methodLink RX4 119 yX4_pushNumber ∈ zWs := zWs_mem (List.mem_of_getElem? (i := 899) (by decide +kernel)) rfl
set_option maxRecDepth 20000 in
theorem tw_902 : Cond.code yX4_pushNumber MX4_pushNumber.2.1 MX4_pushNumber.2.2.1 MX4_pushNumber.2.2.2 ∈ zWs := zWs_mem (List.mem_of_getElem? (i := 902) rfl) rfl
theorem zy_X4_pushNumber : zYok MX4_pushNumber 2 := ⟨by decide +kernel, by decide +kernel, by decide +kernel⟩
theorem tw_901 : Cond.instanceMethod yX4_pushNumber ∈ zWs := zWs_mem (List.mem_of_getElem? (i := 901) (by decide +kernel)) rfl
theorem ts_34 : Cond.selects yX4_pushNumber.cls yX4_pushNumber yX4_pushNumber ∈ zWs := zWs_mem (List.mem_of_getElem? (i := 34) (by decide +kernel)) rfl
theorem lvX4_119 : ZLV RX4 119 MX4_pushNumber 2 := ⟨⟨tw_899, tw_901, ts_34, tw_89, tw_902⟩, zy_X4_pushNumber, Nat.le_of_ble_eq_true rfl⟩
theorem tw_904 : Cond.methodLink RX4 122 yX4_negate ∈ zWs := zWs_mem (List.mem_of_getElem? (i := 904) (by decide +kernel)) rfl
set_option maxRecDepth 20000 in
theorem tw_907 : Cond.code yX4_negate MX4_negate.2.1 MX4_negate.2.2.1 MX4_negate.2.2.2 ∈ zWs := zWs_mem (List.mem_of_getElem? (i := 907) rfl) rfl
theorem zy_X4_negate : zYok MX4_negate 0 := ⟨by decide +kernel, by decide +kernel, by decide +kernel⟩
theorem tw_906 : Cond.instanceMethod yX4_negate ∈ zWs := zWs_mem (List.mem_of_getElem? (i := 906) (by decide +kernel)) rfl
theorem ts_35 : Cond.selects yX4_negate.cls yX4_negate yX4_negate ∈ zWs := zWs_mem (List.mem_of_getElem? (i := 35) (by decide +kernel)) rfl
theorem lvX4_122 : ZLV RX4 122 MX4_negate 0 := ⟨⟨tw_904, tw_906, ts_35, tw_89, tw_907⟩, zy_X4_negate, Nat.le_of_ble_eq_true rfl⟩
theorem tw_908 : Cond.methodLink RX4 126 yX4_combine ∈ zWs := zWs_mem (List.mem_of_getElem? (i := 908) (by decide +kernel)) rfl
set_option maxRecDepth 20000 in
theorem tw_911 : Cond.code yX4_combine MX4_combine.2.1 MX4_combine.2.2.1 MX4_combine.2.2.2 ∈ zWs := zWs_mem (List.mem_of_getElem? (i := 911) rfl) rfl
theorem zy_X4_combine : zYok MX4_combine 1 := ⟨by decide +kernel, by decide +kernel, by decide +kernel⟩
theorem tw_910 : Cond.instanceMethod yX4_combine ∈ zWs := zWs_mem (List.mem_of_getElem? (i := 910) (by decide +kernel)) rfl
theorem ts_36 : Cond.selects yX4_combine.cls yX4_combine yX4_combine ∈ zWs := zWs_mem (List.mem_of_getElem? (i := 36) (by decide +kernel)) rfl
theorem lvX4_126 : ZLV RX4 126 MX4_combine 1 := ⟨⟨tw_908, tw_910, ts_36, tw_89, tw_911⟩, zy_X4_combine, Nat.le_of_ble_eq_true rfl⟩
theorem tw_915 : Cond.methodLink RL 42 yX9_how ∈ zWs := zWs_mem (List.mem_of_getElem? (i := 915) (by decide +kernel)) rfl
set_option maxRecDepth 20000 in
theorem tw_918 : Cond.code yX9_how MX9_how.2.1 MX9_how.2.2.1 MX9_how.2.2.2 ∈ zWs := zWs_mem (List.mem_of_getElem? (i := 918) rfl) rfl
theorem zy_X9_how : zYok MX9_how 2 := ⟨by decide +kernel, by decide +kernel, by decide +kernel⟩
theorem tw_916 : Cond.instanceMethod yX9_how ∈ zWs := zWs_mem (List.mem_of_getElem? (i := 916) (by decide +kernel)) rfl
theorem tw_917 : Cond.selects yX9_how.cls yX9_how yX9_how ∈ zWs := zWs_mem (List.mem_of_getElem? (i := 917) (by decide +kernel)) rfl
theorem lvL_42 : ZLV RL 42 MX9_how 2 := ⟨⟨tw_915, tw_916, tw_917, tw_87, tw_918⟩, zy_X9_how, Nat.le_of_ble_eq_true rfl⟩
theorem tw_921 : Cond.methodLink RL 48 yX10_init ∈ zWs := zWs_mem (List.mem_of_getElem? (i := 921) (by decide +kernel)) rfl
set_option maxRecDepth 20000 in
theorem tw_923 : Cond.code yX10_init MX10_init.2.1 MX10_init.2.2.1 MX10_init.2.2.2 ∈ zWs := zWs_mem (List.mem_of_getElem? (i := 923) rfl) rfl
theorem zy_X10_init : zYok MX10_init 0 := ⟨by decide +kernel, by decide +kernel, by decide +kernel⟩
theorem tw_922 : Cond.instanceMethod yX10_init ∈ zWs := zWs_mem (List.mem_of_getElem? (i := 922) (by decide +kernel)) rfl
theorem liL_48 : ZLI RL 48 MX10_init 0 := ⟨⟨tw_921, tw_922, tw_90, tw_923⟩, zy_X10_init, Nat.le_of_ble_eq_true rfl, rfl, rfl⟩
theorem tw_924 : Cond.methodLink RX10 1 Lib.objectInit ∈ zWs := zWs_mem (List.mem_of_getElem? (i := 924) (by decide +kernel)) rfl
theorem tw_1098 : Cond.methodLink RL 55 yX10_thrown ∈ zWs := zWs_mem (List.mem_of_getElem? (i := 1098) (by decide +kernel)) rfl
set_option maxRecDepth 20000 in
theorem tw_1101 : Cond.code yX10_thrown MX10_thrown.2.1 MX10_thrown.2.2.1 MX10_thrown.2.2.2 ∈ zWs := zWs_mem (List.mem_of_getElem? (i := 1101) rfl) rfl
theorem zy_X10_thrown : zYok MX10_thrown 0 := ⟨by decide +kernel, by decide +kernel, by decide +kernel⟩
theorem tw_1099 : Cond.instanceMethod yX10_thrown ∈ zWs := zWs_mem (List.mem_of_getElem? (i := 1099) (by decide +kernel)) rfl
theorem tw_1100 : Cond.selects yX10_thrown.cls yX10_thrown yX10_thrown ∈ zWs := zWs_mem (List.mem_of_getElem? (i := 1100) (by decide +kernel)) rfl
theorem lvL_55 : ZLV RL 55 MX10_thrown 0 := ⟨⟨tw_1098, tw_1099, tw_1100, tw_90, tw_1101⟩, zy_X10_thrown, Nat.le_of_ble_eq_true rfl⟩
theorem tw_1102 : Cond.methodLink RL 54 yX10_element ∈ zWs := zWs_mem (List.mem_of_getElem? (i := 1102) (by decide +kernel)) rfl
set_option maxRecDepth 20000 in
theorem tw_1105 : Cond.code yX10_element MX10_element.2.1 MX10_element.2.2.1 MX10_element.2.2.2 ∈ zWs := zWs_mem (List.mem_of_getElem? (i := 1105) rfl) rfl
theorem zy_X10_element : zYok MX10_element 4 := ⟨by decide +kernel, by decide +kernel, by decide +kernel⟩
theorem tw_1103 : Cond.instanceMethod yX10_element ∈ zWs := zWs_mem (List.mem_of_getElem? (i := 1103) (by decide +kernel)) rfl
theorem tw_1104 : Cond.selects yX10_element.cls yX10_element yX10_element ∈ zWs := zWs_mem (List.mem_of_getElem? (i := 1104) (by decide +kernel)) rfl
theorem lvL_54 : ZLV RL 54 MX10_element 4 := ⟨⟨tw_1102, tw_1103, tw_1104, tw_90, tw_1105⟩, zy_X10_element, Nat.le_of_ble_eq_true rfl⟩
theorem tw_1106 : Cond.methodLink RX10 140 yX10_outside ∈ zWs := zWs_mem (List.mem_of_getElem? (i := 1106) (by decide +kernel)) rfl
set_option maxRecDepth 20000 in
theorem tw_1108 : Cond.code yX10_outside MX10_outside.2.1 MX10_outside.2.2.1 MX10_outside.2.2.2 ∈ zWs := zWs_mem (List.mem_of_getElem? (i := 1108) rfl) rfl
theorem zy_X10_outside : zYok MX10_outside 3 := ⟨by decide +kernel, by decide +kernel, by decide +kernel⟩
theorem tw_1107 : Cond.static yX10_outside ∈ zWs := zWs_mem (List.mem_of_getElem? (i := 1107) (by decide +kernel)) rfl
theorem lsX10_140 : ZLS RX10 140 MX10_outside 3 := ⟨⟨tw_1106, tw_1107, tw_90, tw_1108⟩, zy_X10_outside, Nat.le_of_ble_eq_true rfl⟩
theorem tw_1109 : Cond.methodLink RL 63 yX10_put ∈ zWs := zWs_mem (List.mem_of_getElem? (i := 1109) (by decide +kernel)) rfl
set_option maxRecDepth 20000 in
theorem tw_1112 : Cond.code yX10_put MX10_put.2.1 MX10_put.2.2.1 MX10_put.2.2.2 ∈ zWs := zWs_mem (List.mem_of_getElem? (i := 1112) rfl) rfl
theorem zy_X10_put : zYok MX10_put 2 := ⟨by decide +kernel, by decide +kernel, by decide +kernel⟩
theorem tw_1110 : Cond.instanceMethod yX10_put ∈ zWs := zWs_mem (List.mem_of_getElem? (i := 1110) (by decide +kernel)) rfl
theorem tw_1111 : Cond.selects yX10_put.cls yX10_put yX10_put ∈ zWs := zWs_mem (List.mem_of_getElem? (i := 1111) (by decide +kernel)) rfl
theorem lvL_63 : ZLV RL 63 MX10_put 2 := ⟨⟨tw_1109, tw_1110, tw_1111, tw_90, tw_1112⟩, zy_X10_put, Nat.le_of_ble_eq_true rfl⟩
theorem tw_1113 : Cond.methodLink RL 67 yX10_rule ∈ zWs := zWs_mem (List.mem_of_getElem? (i := 1113) (by decide +kernel)) rfl
set_option maxRecDepth 20000 in
theorem tw_1116 : Cond.code yX10_rule MX10_rule.2.1 MX10_rule.2.2.1 MX10_rule.2.2.2 ∈ zWs := zWs_mem (List.mem_of_getElem? (i := 1116) rfl) rfl
theorem zy_X10_rule : zYok MX10_rule 1 := ⟨by decide +kernel, by decide +kernel, by decide +kernel⟩
theorem tw_1114 : Cond.instanceMethod yX10_rule ∈ zWs := zWs_mem (List.mem_of_getElem? (i := 1114) (by decide +kernel)) rfl
theorem tw_1115 : Cond.selects yX10_rule.cls yX10_rule yX10_rule ∈ zWs := zWs_mem (List.mem_of_getElem? (i := 1115) (by decide +kernel)) rfl
theorem lvL_67 : ZLV RL 67 MX10_rule 1 := ⟨⟨tw_1113, tw_1114, tw_1115, tw_90, tw_1116⟩, zy_X10_rule, Nat.le_of_ble_eq_true rfl⟩
theorem tw_1117 : Cond.methodLink RX10 277 yX10_readRule ∈ zWs := zWs_mem (List.mem_of_getElem? (i := 1117) (by decide +kernel)) rfl
set_option maxRecDepth 20000 in
theorem tw_1120 : Cond.code yX10_readRule MX10_readRule.2.1 MX10_readRule.2.2.1 MX10_readRule.2.2.2 ∈ zWs := zWs_mem (List.mem_of_getElem? (i := 1120) rfl) rfl
theorem zy_X10_readRule : zYok MX10_readRule 1 := ⟨by decide +kernel, by decide +kernel, by decide +kernel⟩
theorem tw_1119 : Cond.instanceMethod yX10_readRule ∈ zWs := zWs_mem (List.mem_of_getElem? (i := 1119) (by decide +kernel)) rfl
theorem ts_37 : Cond.selects yX10_readRule.cls yX10_readRule yX10_readRule ∈ zWs := zWs_mem (List.mem_of_getElem? (i := 37) (by decide +kernel)) rfl
theorem lvX10_277 : ZLV RX10 277 MX10_readRule 1 := ⟨⟨tw_1117, tw_1119, ts_37, tw_90, tw_1120⟩, zy_X10_readRule, Nat.le_of_ble_eq_true rfl⟩
theorem tw_1121 : Cond.methodLink RX10 265 yX10_open ∈ zWs := zWs_mem (List.mem_of_getElem? (i := 1121) (by decide +kernel)) rfl
set_option maxRecDepth 20000 in
theorem tw_1124 : Cond.code yX10_open MX10_open.2.1 MX10_open.2.2.1 MX10_open.2.2.2 ∈ zWs := zWs_mem (List.mem_of_getElem? (i := 1124) rfl) rfl
theorem zy_X10_open : zYok MX10_open 1 := ⟨by decide +kernel, by decide +kernel, by decide +kernel⟩
theorem tw_1123 : Cond.instanceMethod yX10_open ∈ zWs := zWs_mem (List.mem_of_getElem? (i := 1123) (by decide +kernel)) rfl
theorem ts_38 : Cond.selects yX10_open.cls yX10_open yX10_open ∈ zWs := zWs_mem (List.mem_of_getElem? (i := 38) (by decide +kernel)) rfl
theorem lvX10_265 : ZLV RX10 265 MX10_open 1 := ⟨⟨tw_1121, tw_1123, ts_38, tw_90, tw_1124⟩, zy_X10_open, Nat.le_of_ble_eq_true rfl⟩
theorem tw_1125 : Cond.methodLink RX10 268 yX10_readSelectors ∈ zWs := zWs_mem (List.mem_of_getElem? (i := 1125) (by decide +kernel)) rfl
set_option maxRecDepth 20000 in
theorem tw_1128 : Cond.code yX10_readSelectors MX10_readSelectors.2.1 MX10_readSelectors.2.2.1 MX10_readSelectors.2.2.2 ∈ zWs := zWs_mem (List.mem_of_getElem? (i := 1128) rfl) rfl
theorem zy_X10_readSelectors : zYok MX10_readSelectors 0 := ⟨by decide +kernel, by decide +kernel, by decide +kernel⟩
theorem tw_1127 : Cond.instanceMethod yX10_readSelectors ∈ zWs := zWs_mem (List.mem_of_getElem? (i := 1127) (by decide +kernel)) rfl
theorem ts_39 : Cond.selects yX10_readSelectors.cls yX10_readSelectors yX10_readSelectors ∈ zWs := zWs_mem (List.mem_of_getElem? (i := 39) (by decide +kernel)) rfl
theorem lvX10_268 : ZLV RX10 268 MX10_readSelectors 0 := ⟨⟨tw_1125, tw_1127, ts_39, tw_90, tw_1128⟩, zy_X10_readSelectors, Nat.le_of_ble_eq_true rfl⟩
theorem tw_1129 : Cond.methodLink RX10 227 yX10_readSelector ∈ zWs := zWs_mem (List.mem_of_getElem? (i := 1129) (by decide +kernel)) rfl
set_option maxRecDepth 20000 in
theorem tw_1132 : Cond.code yX10_readSelector MX10_readSelector.2.1 MX10_readSelector.2.2.1 MX10_readSelector.2.2.2 ∈ zWs := zWs_mem (List.mem_of_getElem? (i := 1132) rfl) rfl
theorem zy_X10_readSelector : zYok MX10_readSelector 0 := ⟨by decide +kernel, by decide +kernel, by decide +kernel⟩
theorem tw_1131 : Cond.instanceMethod yX10_readSelector ∈ zWs := zWs_mem (List.mem_of_getElem? (i := 1131) (by decide +kernel)) rfl
theorem ts_40 : Cond.selects yX10_readSelector.cls yX10_readSelector yX10_readSelector ∈ zWs := zWs_mem (List.mem_of_getElem? (i := 40) (by decide +kernel)) rfl
theorem lvX10_227 : ZLV RX10 227 MX10_readSelector 0 := ⟨⟨tw_1129, tw_1131, ts_40, tw_90, tw_1132⟩, zy_X10_readSelector, Nat.le_of_ble_eq_true rfl⟩
theorem tw_1133 : Cond.methodLink RX10 224 yX10_readCompound ∈ zWs := zWs_mem (List.mem_of_getElem? (i := 1133) (by decide +kernel)) rfl
set_option maxRecDepth 20000 in
theorem tw_1136 : Cond.code yX10_readCompound MX10_readCompound.2.1 MX10_readCompound.2.2.1 MX10_readCompound.2.2.2 ∈ zWs := zWs_mem (List.mem_of_getElem? (i := 1136) rfl) rfl
theorem zy_X10_readCompound : zYok MX10_readCompound 1 := ⟨by decide +kernel, by decide +kernel, by decide +kernel⟩
theorem tw_1135 : Cond.instanceMethod yX10_readCompound ∈ zWs := zWs_mem (List.mem_of_getElem? (i := 1135) (by decide +kernel)) rfl
theorem ts_41 : Cond.selects yX10_readCompound.cls yX10_readCompound yX10_readCompound ∈ zWs := zWs_mem (List.mem_of_getElem? (i := 41) (by decide +kernel)) rfl
theorem lvX10_224 : ZLV RX10 224 MX10_readCompound 1 := ⟨⟨tw_1133, tw_1135, ts_41, tw_90, tw_1136⟩, zy_X10_readCompound, Nat.le_of_ble_eq_true rfl⟩
theorem tw_1137 : Cond.methodLink RX10 211 yX10_readHead ∈ zWs := zWs_mem (List.mem_of_getElem? (i := 1137) (by decide +kernel)) rfl
set_option maxRecDepth 20000 in
theorem tw_1140 : Cond.code yX10_readHead MX10_readHead.2.1 MX10_readHead.2.2.1 MX10_readHead.2.2.2 ∈ zWs := zWs_mem (List.mem_of_getElem? (i := 1140) rfl) rfl
theorem zy_X10_readHead : zYok MX10_readHead 1 := ⟨by decide +kernel, by decide +kernel, by decide +kernel⟩
theorem tw_1139 : Cond.instanceMethod yX10_readHead ∈ zWs := zWs_mem (List.mem_of_getElem? (i := 1139) (by decide +kernel)) rfl
theorem ts_42 : Cond.selects yX10_readHead.cls yX10_readHead yX10_readHead ∈ zWs := zWs_mem (List.mem_of_getElem? (i := 42) (by decide +kernel)) rfl
theorem lvX10_211 : ZLV RX10 211 MX10_readHead 1 := ⟨⟨tw_1137, tw_1139, ts_42, tw_90, tw_1140⟩, zy_X10_readHead, Nat.le_of_ble_eq_true rfl⟩
theorem tw_1141 : Cond.methodLink RX10 176 yX10_pass ∈ zWs := zWs_mem (List.mem_of_getElem? (i := 1141) (by decide +kernel)) rfl
set_option maxRecDepth 20000 in
theorem tw_1144 : Cond.code yX10_pass MX10_pass.2.1 MX10_pass.2.2.1 MX10_pass.2.2.2 ∈ zWs := zWs_mem (List.mem_of_getElem? (i := 1144) rfl) rfl
theorem zy_X10_pass : zYok MX10_pass 1 := ⟨by decide +kernel, by decide +kernel, by decide +kernel⟩
theorem tw_1143 : Cond.instanceMethod yX10_pass ∈ zWs := zWs_mem (List.mem_of_getElem? (i := 1143) (by decide +kernel)) rfl
theorem ts_43 : Cond.selects yX10_pass.cls yX10_pass yX10_pass ∈ zWs := zWs_mem (List.mem_of_getElem? (i := 43) (by decide +kernel)) rfl
theorem lvX10_176 : ZLV RX10 176 MX10_pass 1 := ⟨⟨tw_1141, tw_1143, ts_43, tw_90, tw_1144⟩, zy_X10_pass, Nat.le_of_ble_eq_true rfl⟩
theorem tw_1145 : Cond.methodLink RX10 172 yX10_look ∈ zWs := zWs_mem (List.mem_of_getElem? (i := 1145) (by decide +kernel)) rfl
set_option maxRecDepth 20000 in
theorem tw_1148 : Cond.code yX10_look MX10_look.2.1 MX10_look.2.2.1 MX10_look.2.2.2 ∈ zWs := zWs_mem (List.mem_of_getElem? (i := 1148) rfl) rfl
theorem zy_X10_look : zYok MX10_look 0 := ⟨by decide +kernel, by decide +kernel, by decide +kernel⟩
theorem tw_1147 : Cond.instanceMethod yX10_look ∈ zWs := zWs_mem (List.mem_of_getElem? (i := 1147) (by decide +kernel)) rfl
theorem ts_44 : Cond.selects yX10_look.cls yX10_look yX10_look ∈ zWs := zWs_mem (List.mem_of_getElem? (i := 44) (by decide +kernel)) rfl
theorem lvX10_172 : ZLV RX10 172 MX10_look 0 := ⟨⟨tw_1145, tw_1147, ts_44, tw_90, tw_1148⟩, zy_X10_look, Nat.le_of_ble_eq_true rfl⟩
theorem tw_1149 : Cond.methodLink RX10 196 yX10_addPart ∈ zWs := zWs_mem (List.mem_of_getElem? (i := 1149) (by decide +kernel)) rfl
set_option maxRecDepth 20000 in
theorem tw_1152 : Cond.code yX10_addPart MX10_addPart.2.1 MX10_addPart.2.2.1 MX10_addPart.2.2.2 ∈ zWs := zWs_mem (List.mem_of_getElem? (i := 1152) rfl) rfl
theorem zy_X10_addPart : zYok MX10_addPart 4 := ⟨by decide +kernel, by decide +kernel, by decide +kernel⟩
theorem tw_1151 : Cond.instanceMethod yX10_addPart ∈ zWs := zWs_mem (List.mem_of_getElem? (i := 1151) (by decide +kernel)) rfl
theorem ts_45 : Cond.selects yX10_addPart.cls yX10_addPart yX10_addPart ∈ zWs := zWs_mem (List.mem_of_getElem? (i := 45) (by decide +kernel)) rfl
theorem lvX10_196 : ZLV RX10 196 MX10_addPart 4 := ⟨⟨tw_1149, tw_1151, ts_45, tw_90, tw_1152⟩, zy_X10_addPart, Nat.le_of_ble_eq_true rfl⟩
theorem tw_1153 : Cond.methodLink RX10 200 yX10_letter ∈ zWs := zWs_mem (List.mem_of_getElem? (i := 1153) (by decide +kernel)) rfl
set_option maxRecDepth 20000 in
theorem tw_1156 : Cond.code yX10_letter MX10_letter.2.1 MX10_letter.2.2.1 MX10_letter.2.2.2 ∈ zWs := zWs_mem (List.mem_of_getElem? (i := 1156) rfl) rfl
theorem zy_X10_letter : zYok MX10_letter 1 := ⟨by decide +kernel, by decide +kernel, by decide +kernel⟩
theorem tw_1155 : Cond.instanceMethod yX10_letter ∈ zWs := zWs_mem (List.mem_of_getElem? (i := 1155) (by decide +kernel)) rfl
theorem ts_46 : Cond.selects yX10_letter.cls yX10_letter yX10_letter ∈ zWs := zWs_mem (List.mem_of_getElem? (i := 46) (by decide +kernel)) rfl
theorem lvX10_200 : ZLV RX10 200 MX10_letter 1 := ⟨⟨tw_1153, tw_1155, ts_46, tw_90, tw_1156⟩, zy_X10_letter, Nat.le_of_ble_eq_true rfl⟩
theorem tw_1157 : Cond.methodLink RX10 180 yX10_must ∈ zWs := zWs_mem (List.mem_of_getElem? (i := 1157) (by decide +kernel)) rfl
set_option maxRecDepth 20000 in
theorem tw_1160 : Cond.code yX10_must MX10_must.2.1 MX10_must.2.2.1 MX10_must.2.2.2 ∈ zWs := zWs_mem (List.mem_of_getElem? (i := 1160) rfl) rfl
theorem zy_X10_must : zYok MX10_must 1 := ⟨by decide +kernel, by decide +kernel, by decide +kernel⟩
theorem tw_1159 : Cond.instanceMethod yX10_must ∈ zWs := zWs_mem (List.mem_of_getElem? (i := 1159) (by decide +kernel)) rfl
theorem ts_47 : Cond.selects yX10_must.cls yX10_must yX10_must ∈ zWs := zWs_mem (List.mem_of_getElem? (i := 47) (by decide +kernel)) rfl
theorem lvX10_180 : ZLV RX10 180 MX10_must 1 := ⟨⟨tw_1157, tw_1159, ts_47, tw_90, tw_1160⟩, zy_X10_must, Nat.le_of_ble_eq_true rfl⟩
theorem tw_1161 : Cond.methodLink RX10 215 yX10_beginsPart ∈ zWs := zWs_mem (List.mem_of_getElem? (i := 1161) (by decide +kernel)) rfl
set_option maxRecDepth 20000 in
theorem tw_1164 : Cond.code yX10_beginsPart MX10_beginsPart.2.1 MX10_beginsPart.2.2.1 MX10_beginsPart.2.2.2 ∈ zWs := zWs_mem (List.mem_of_getElem? (i := 1164) rfl) rfl
theorem zy_X10_beginsPart : zYok MX10_beginsPart 0 := ⟨by decide +kernel, by decide +kernel, by decide +kernel⟩
theorem tw_1163 : Cond.instanceMethod yX10_beginsPart ∈ zWs := zWs_mem (List.mem_of_getElem? (i := 1163) (by decide +kernel)) rfl
theorem ts_48 : Cond.selects yX10_beginsPart.cls yX10_beginsPart yX10_beginsPart ∈ zWs := zWs_mem (List.mem_of_getElem? (i := 48) (by decide +kernel)) rfl
theorem lvX10_215 : ZLV RX10 215 MX10_beginsPart 0 := ⟨⟨tw_1161, tw_1163, ts_48, tw_90, tw_1164⟩, zy_X10_beginsPart, Nat.le_of_ble_eq_true rfl⟩
theorem tw_1165 : Cond.methodLink RX10 218 yX10_readPart ∈ zWs := zWs_mem (List.mem_of_getElem? (i := 1165) (by decide +kernel)) rfl
set_option maxRecDepth 20000 in
theorem tw_1168 : Cond.code yX10_readPart MX10_readPart.2.1 MX10_readPart.2.2.1 MX10_readPart.2.2.2 ∈ zWs := zWs_mem (List.mem_of_getElem? (i := 1168) rfl) rfl
theorem zy_X10_readPart : zYok MX10_readPart 1 := ⟨by decide +kernel, by decide +kernel, by decide +kernel⟩
theorem tw_1167 : Cond.instanceMethod yX10_readPart ∈ zWs := zWs_mem (List.mem_of_getElem? (i := 1167) (by decide +kernel)) rfl
theorem ts_49 : Cond.selects yX10_readPart.cls yX10_readPart yX10_readPart ∈ zWs := zWs_mem (List.mem_of_getElem? (i := 49) (by decide +kernel)) rfl
theorem lvX10_218 : ZLV RX10 218 MX10_readPart 1 := ⟨⟨tw_1165, tw_1167, ts_49, tw_90, tw_1168⟩, zy_X10_readPart, Nat.le_of_ble_eq_true rfl⟩
theorem tw_1169 : Cond.methodLink RX10 204 yX10_readCount ∈ zWs := zWs_mem (List.mem_of_getElem? (i := 1169) (by decide +kernel)) rfl
set_option maxRecDepth 20000 in
theorem tw_1172 : Cond.code yX10_readCount MX10_readCount.2.1 MX10_readCount.2.2.1 MX10_readCount.2.2.2 ∈ zWs := zWs_mem (List.mem_of_getElem? (i := 1172) rfl) rfl
theorem zy_X10_readCount : zYok MX10_readCount 1 := ⟨by decide +kernel, by decide +kernel, by decide +kernel⟩
theorem tw_1171 : Cond.instanceMethod yX10_readCount ∈ zWs := zWs_mem (List.mem_of_getElem? (i := 1171) (by decide +kernel)) rfl
theorem ts_50 : Cond.selects yX10_readCount.cls yX10_readCount yX10_readCount ∈ zWs := zWs_mem (List.mem_of_getElem? (i := 50) (by decide +kernel)) rfl
theorem lvX10_204 : ZLV RX10 204 MX10_readCount 1 := ⟨⟨tw_1169, tw_1171, ts_50, tw_90, tw_1172⟩, zy_X10_readCount, Nat.le_of_ble_eq_true rfl⟩
theorem tw_1173 : Cond.methodLink RX10 188 yX10_expect ∈ zWs := zWs_mem (List.mem_of_getElem? (i := 1173) (by decide +kernel)) rfl
set_option maxRecDepth 20000 in
theorem tw_1176 : Cond.code yX10_expect MX10_expect.2.1 MX10_expect.2.2.1 MX10_expect.2.2.2 ∈ zWs := zWs_mem (List.mem_of_getElem? (i := 1176) rfl) rfl
theorem zy_X10_expect : zYok MX10_expect 1 := ⟨by decide +kernel, by decide +kernel, by decide +kernel⟩
theorem tw_1175 : Cond.instanceMethod yX10_expect ∈ zWs := zWs_mem (List.mem_of_getElem? (i := 1175) (by decide +kernel)) rfl
theorem ts_51 : Cond.selects yX10_expect.cls yX10_expect yX10_expect ∈ zWs := zWs_mem (List.mem_of_getElem? (i := 51) (by decide +kernel)) rfl
theorem lvX10_188 : ZLV RX10 188 MX10_expect 1 := ⟨⟨tw_1173, tw_1175, ts_51, tw_90, tw_1176⟩, zy_X10_expect, Nat.le_of_ble_eq_true rfl⟩
theorem tw_1177 : Cond.methodLink RX10 192 yX10_digit ∈ zWs := zWs_mem (List.mem_of_getElem? (i := 1177) (by decide +kernel)) rfl
set_option maxRecDepth 20000 in
theorem tw_1180 : Cond.code yX10_digit MX10_digit.2.1 MX10_digit.2.2.1 MX10_digit.2.2.2 ∈ zWs := zWs_mem (List.mem_of_getElem? (i := 1180) rfl) rfl
theorem zy_X10_digit : zYok MX10_digit 0 := ⟨by decide +kernel, by decide +kernel, by decide +kernel⟩
theorem tw_1179 : Cond.instanceMethod yX10_digit ∈ zWs := zWs_mem (List.mem_of_getElem? (i := 1179) (by decide +kernel)) rfl
theorem ts_52 : Cond.selects yX10_digit.cls yX10_digit yX10_digit ∈ zWs := zWs_mem (List.mem_of_getElem? (i := 52) (by decide +kernel)) rfl
theorem lvX10_192 : ZLV RX10 192 MX10_digit 0 := ⟨⟨tw_1177, tw_1179, ts_52, tw_90, tw_1180⟩, zy_X10_digit, Nat.le_of_ble_eq_true rfl⟩
theorem tw_1181 : Cond.methodLink RX10 184 yX10_isDigit ∈ zWs := zWs_mem (List.mem_of_getElem? (i := 1181) (by decide +kernel)) rfl
set_option maxRecDepth 20000 in
theorem tw_1184 : Cond.code yX10_isDigit MX10_isDigit.2.1 MX10_isDigit.2.2.1 MX10_isDigit.2.2.2 ∈ zWs := zWs_mem (List.mem_of_getElem? (i := 1184) rfl) rfl
theorem zy_X10_isDigit : zYok MX10_isDigit 0 := ⟨by decide +kernel, by decide +kernel, by decide +kernel⟩
theorem tw_1183 : Cond.instanceMethod yX10_isDigit ∈ zWs := zWs_mem (List.mem_of_getElem? (i := 1183) (by decide +kernel)) rfl
theorem ts_53 : Cond.selects yX10_isDigit.cls yX10_isDigit yX10_isDigit ∈ zWs := zWs_mem (List.mem_of_getElem? (i := 53) (by decide +kernel)) rfl
theorem lvX10_184 : ZLV RX10 184 MX10_isDigit 0 := ⟨⟨tw_1181, tw_1183, ts_53, tw_90, tw_1184⟩, zy_X10_isDigit, Nat.le_of_ble_eq_true rfl⟩
theorem tw_1185 : Cond.methodLink RX10 221 yX10_readInner ∈ zWs := zWs_mem (List.mem_of_getElem? (i := 1185) (by decide +kernel)) rfl
set_option maxRecDepth 20000 in
theorem tw_1188 : Cond.code yX10_readInner MX10_readInner.2.1 MX10_readInner.2.2.1 MX10_readInner.2.2.2 ∈ zWs := zWs_mem (List.mem_of_getElem? (i := 1188) rfl) rfl
theorem zy_X10_readInner : zYok MX10_readInner 0 := ⟨by decide +kernel, by decide +kernel, by decide +kernel⟩
theorem tw_1187 : Cond.instanceMethod yX10_readInner ∈ zWs := zWs_mem (List.mem_of_getElem? (i := 1187) (by decide +kernel)) rfl
theorem ts_54 : Cond.selects yX10_readInner.cls yX10_readInner yX10_readInner ∈ zWs := zWs_mem (List.mem_of_getElem? (i := 54) (by decide +kernel)) rfl
theorem lvX10_221 : ZLV RX10 221 MX10_readInner 0 := ⟨⟨tw_1185, tw_1187, ts_54, tw_90, tw_1188⟩, zy_X10_readInner, Nat.le_of_ble_eq_true rfl⟩
theorem tw_1189 : Cond.methodLink RX10 271 yX10_readDeclaration ∈ zWs := zWs_mem (List.mem_of_getElem? (i := 1189) (by decide +kernel)) rfl
set_option maxRecDepth 20000 in
theorem tw_1192 : Cond.code yX10_readDeclaration MX10_readDeclaration.2.1 MX10_readDeclaration.2.2.1 MX10_readDeclaration.2.2.2 ∈ zWs := zWs_mem (List.mem_of_getElem? (i := 1192) rfl) rfl
theorem zy_X10_readDeclaration : zYok MX10_readDeclaration 0 := ⟨by decide +kernel, by decide +kernel, by decide +kernel⟩
theorem tw_1191 : Cond.instanceMethod yX10_readDeclaration ∈ zWs := zWs_mem (List.mem_of_getElem? (i := 1191) (by decide +kernel)) rfl
theorem ts_55 : Cond.selects yX10_readDeclaration.cls yX10_readDeclaration yX10_readDeclaration ∈ zWs := zWs_mem (List.mem_of_getElem? (i := 55) (by decide +kernel)) rfl
theorem lvX10_271 : ZLV RX10 271 MX10_readDeclaration 0 := ⟨⟨tw_1189, tw_1191, ts_55, tw_90, tw_1192⟩, zy_X10_readDeclaration, Nat.le_of_ble_eq_true rfl⟩
theorem tw_1193 : Cond.methodLink RX10 255 yX10_property ∈ zWs := zWs_mem (List.mem_of_getElem? (i := 1193) (by decide +kernel)) rfl
set_option maxRecDepth 20000 in
theorem tw_1195 : Cond.code yX10_property MX10_property.2.1 MX10_property.2.2.1 MX10_property.2.2.2 ∈ zWs := zWs_mem (List.mem_of_getElem? (i := 1195) rfl) rfl
theorem zy_X10_property : zYok MX10_property 1 := ⟨by decide +kernel, by decide +kernel, by decide +kernel⟩
theorem tw_1194 : Cond.static yX10_property ∈ zWs := zWs_mem (List.mem_of_getElem? (i := 1194) (by decide +kernel)) rfl
theorem lsX10_255 : ZLS RX10 255 MX10_property 1 := ⟨⟨tw_1193, tw_1194, tw_90, tw_1195⟩, zy_X10_property, Nat.le_of_ble_eq_true rfl⟩
theorem tw_1196 : Cond.methodLink RX10 258 yX10_word ∈ zWs := zWs_mem (List.mem_of_getElem? (i := 1196) (by decide +kernel)) rfl
set_option maxRecDepth 20000 in
theorem tw_1199 : Cond.code yX10_word MX10_word.2.1 MX10_word.2.2.1 MX10_word.2.2.2 ∈ zWs := zWs_mem (List.mem_of_getElem? (i := 1199) rfl) rfl
theorem zy_X10_word : zYok MX10_word 1 := ⟨by decide +kernel, by decide +kernel, by decide +kernel⟩
theorem tw_1198 : Cond.instanceMethod yX10_word ∈ zWs := zWs_mem (List.mem_of_getElem? (i := 1198) (by decide +kernel)) rfl
theorem ts_56 : Cond.selects yX10_word.cls yX10_word yX10_word ∈ zWs := zWs_mem (List.mem_of_getElem? (i := 56) (by decide +kernel)) rfl
theorem lvX10_258 : ZLV RX10 258 MX10_word 1 := ⟨⟨tw_1196, tw_1198, ts_56, tw_90, tw_1199⟩, zy_X10_word, Nat.le_of_ble_eq_true rfl⟩
theorem tw_1200 : Cond.methodLink RX10 262 yX10_readSum ∈ zWs := zWs_mem (List.mem_of_getElem? (i := 1200) (by decide +kernel)) rfl
set_option maxRecDepth 20000 in
theorem tw_1203 : Cond.code yX10_readSum MX10_readSum.2.1 MX10_readSum.2.2.1 MX10_readSum.2.2.2 ∈ zWs := zWs_mem (List.mem_of_getElem? (i := 1203) rfl) rfl
theorem zy_X10_readSum : zYok MX10_readSum 0 := ⟨by decide +kernel, by decide +kernel, by decide +kernel⟩
theorem tw_1202 : Cond.instanceMethod yX10_readSum ∈ zWs := zWs_mem (List.mem_of_getElem? (i := 1202) (by decide +kernel)) rfl
theorem ts_57 : Cond.selects yX10_readSum.cls yX10_readSum yX10_readSum ∈ zWs := zWs_mem (List.mem_of_getElem? (i := 57) (by decide +kernel)) rfl
theorem lvX10_262 : ZLV RX10 262 MX10_readSum 0 := ⟨⟨tw_1200, tw_1202, ts_57, tw_90, tw_1203⟩, zy_X10_readSum, Nat.le_of_ble_eq_true rfl⟩
theorem tw_1204 : Cond.methodLink RX10 238 yX10_signOf ∈ zWs := zWs_mem (List.mem_of_getElem? (i := 1204) (by decide +kernel)) rfl
set_option maxRecDepth 20000 in
theorem tw_1207 : Cond.code yX10_signOf MX10_signOf.2.1 MX10_signOf.2.2.1 MX10_signOf.2.2.2 ∈ zWs := zWs_mem (List.mem_of_getElem? (i := 1207) rfl) rfl
theorem zy_X10_signOf : zYok MX10_signOf 1 := ⟨by decide +kernel, by decide +kernel, by decide +kernel⟩
theorem tw_1206 : Cond.instanceMethod yX10_signOf ∈ zWs := zWs_mem (List.mem_of_getElem? (i := 1206) (by decide +kernel)) rfl
theorem ts_58 : Cond.selects yX10_signOf.cls yX10_signOf yX10_signOf ∈ zWs := zWs_mem (List.mem_of_getElem? (i := 58) (by decide +kernel)) rfl
theorem lvX10_238 : ZLV RX10 238 MX10_signOf 1 := ⟨⟨tw_1204, tw_1206, ts_58, tw_90, tw_1207⟩, zy_X10_signOf, Nat.le_of_ble_eq_true rfl⟩
theorem tw_1208 : Cond.methodLink RX10 231 yX10_add ∈ zWs := zWs_mem (List.mem_of_getElem? (i := 1208) (by decide +kernel)) rfl
set_option maxRecDepth 20000 in
theorem tw_1211 : Cond.code yX10_add MX10_add.2.1 MX10_add.2.2.1 MX10_add.2.2.2 ∈ zWs := zWs_mem (List.mem_of_getElem? (i := 1211) rfl) rfl
theorem zy_X10_add : zYok MX10_add 2 := ⟨by decide +kernel, by decide +kernel, by decide +kernel⟩
theorem tw_1210 : Cond.instanceMethod yX10_add ∈ zWs := zWs_mem (List.mem_of_getElem? (i := 1210) (by decide +kernel)) rfl
theorem ts_59 : Cond.selects yX10_add.cls yX10_add yX10_add ∈ zWs := zWs_mem (List.mem_of_getElem? (i := 59) (by decide +kernel)) rfl
theorem lvX10_231 : ZLV RX10 231 MX10_add 2 := ⟨⟨tw_1208, tw_1210, ts_59, tw_90, tw_1211⟩, zy_X10_add, Nat.le_of_ble_eq_true rfl⟩
theorem tw_1212 : Cond.methodLink RX10 242 yX10_readNumber ∈ zWs := zWs_mem (List.mem_of_getElem? (i := 1212) (by decide +kernel)) rfl
set_option maxRecDepth 20000 in
theorem tw_1215 : Cond.code yX10_readNumber MX10_readNumber.2.1 MX10_readNumber.2.2.1 MX10_readNumber.2.2.2 ∈ zWs := zWs_mem (List.mem_of_getElem? (i := 1215) rfl) rfl
theorem zy_X10_readNumber : zYok MX10_readNumber 0 := ⟨by decide +kernel, by decide +kernel, by decide +kernel⟩
theorem tw_1214 : Cond.instanceMethod yX10_readNumber ∈ zWs := zWs_mem (List.mem_of_getElem? (i := 1214) (by decide +kernel)) rfl
theorem ts_60 : Cond.selects yX10_readNumber.cls yX10_readNumber yX10_readNumber ∈ zWs := zWs_mem (List.mem_of_getElem? (i := 60) (by decide +kernel)) rfl
theorem lvX10_242 : ZLV RX10 242 MX10_readNumber 0 := ⟨⟨tw_1212, tw_1214, ts_60, tw_90, tw_1215⟩, zy_X10_readNumber, Nat.le_of_ble_eq_true rfl⟩
theorem tw_1217 : Cond.methodLink RX10 245 yX10_turned ∈ zWs := zWs_mem (List.mem_of_getElem? (i := 1217) (by decide +kernel)) rfl
set_option maxRecDepth 20000 in
theorem tw_1220 : Cond.code yX10_turned MX10_turned.2.1 MX10_turned.2.2.1 MX10_turned.2.2.2 ∈ zWs := zWs_mem (List.mem_of_getElem? (i := 1220) rfl) rfl
theorem zy_X10_turned : zYok MX10_turned 1 := ⟨by decide +kernel, by decide +kernel, by decide +kernel⟩
theorem tw_1219 : Cond.instanceMethod yX10_turned ∈ zWs := zWs_mem (List.mem_of_getElem? (i := 1219) (by decide +kernel)) rfl
theorem ts_61 : Cond.selects yX10_turned.cls yX10_turned yX10_turned ∈ zWs := zWs_mem (List.mem_of_getElem? (i := 61) (by decide +kernel)) rfl
theorem lvX10_245 : ZLV RX10 245 MX10_turned 1 := ⟨⟨tw_1217, tw_1219, ts_61, tw_90, tw_1220⟩, zy_X10_turned, Nat.le_of_ble_eq_true rfl⟩
theorem tw_1221 : Cond.methodLink RX10 248 yX10_pour ∈ zWs := zWs_mem (List.mem_of_getElem? (i := 1221) (by decide +kernel)) rfl
set_option maxRecDepth 20000 in
theorem tw_1224 : Cond.code yX10_pour MX10_pour.2.1 MX10_pour.2.2.1 MX10_pour.2.2.2 ∈ zWs := zWs_mem (List.mem_of_getElem? (i := 1224) rfl) rfl
theorem zy_X10_pour : zYok MX10_pour 2 := ⟨by decide +kernel, by decide +kernel, by decide +kernel⟩
theorem tw_1223 : Cond.instanceMethod yX10_pour ∈ zWs := zWs_mem (List.mem_of_getElem? (i := 1223) (by decide +kernel)) rfl
theorem ts_62 : Cond.selects yX10_pour.cls yX10_pour yX10_pour ∈ zWs := zWs_mem (List.mem_of_getElem? (i := 62) (by decide +kernel)) rfl
theorem lvX10_248 : ZLV RX10 248 MX10_pour 2 := ⟨⟨tw_1221, tw_1223, ts_62, tw_90, tw_1224⟩, zy_X10_pour, Nat.le_of_ble_eq_true rfl⟩
theorem tw_1225 : Cond.methodLink RX10 235 yX10_strength ∈ zWs := zWs_mem (List.mem_of_getElem? (i := 1225) (by decide +kernel)) rfl
set_option maxRecDepth 20000 in
theorem tw_1227 : Cond.code yX10_strength MX10_strength.2.1 MX10_strength.2.2.1 MX10_strength.2.2.2 ∈ zWs := zWs_mem (List.mem_of_getElem? (i := 1227) rfl) rfl
theorem zy_X10_strength : zYok MX10_strength 1 := ⟨by decide +kernel, by decide +kernel, by decide +kernel⟩
theorem tw_1226 : Cond.static yX10_strength ∈ zWs := zWs_mem (List.mem_of_getElem? (i := 1226) (by decide +kernel)) rfl
theorem lsX10_235 : ZLS RX10 235 MX10_strength 1 := ⟨⟨tw_1225, tw_1226, tw_90, tw_1227⟩, zy_X10_strength, Nat.le_of_ble_eq_true rfl⟩
theorem tw_1228 : Cond.methodLink RX10 252 yX10_isOpen ∈ zWs := zWs_mem (List.mem_of_getElem? (i := 1228) (by decide +kernel)) rfl
set_option maxRecDepth 20000 in
theorem tw_1231 : Cond.code yX10_isOpen MX10_isOpen.2.1 MX10_isOpen.2.2.1 MX10_isOpen.2.2.2 ∈ zWs := zWs_mem (List.mem_of_getElem? (i := 1231) rfl) rfl
theorem zy_X10_isOpen : zYok MX10_isOpen 1 := ⟨by decide +kernel, by decide +kernel, by decide +kernel⟩
theorem tw_1230 : Cond.instanceMethod yX10_isOpen ∈ zWs := zWs_mem (List.mem_of_getElem? (i := 1230) (by decide +kernel)) rfl
theorem ts_63 : Cond.selects yX10_isOpen.cls yX10_isOpen yX10_isOpen ∈ zWs := zWs_mem (List.mem_of_getElem? (i := 63) (by decide +kernel)) rfl
theorem lvX10_252 : ZLV RX10 252 MX10_isOpen 1 := ⟨⟨tw_1228, tw_1230, ts_63, tw_90, tw_1231⟩, zy_X10_isOpen, Nat.le_of_ble_eq_true rfl⟩
theorem tw_1232 : Cond.methodLink RX10 280 yX10_move ∈ zWs := zWs_mem (List.mem_of_getElem? (i := 1232) (by decide +kernel)) rfl
set_option maxRecDepth 20000 in
theorem tw_1235 : Cond.code yX10_move MX10_move.2.1 MX10_move.2.2.1 MX10_move.2.2.2 ∈ zWs := zWs_mem (List.mem_of_getElem? (i := 1235) rfl) rfl
theorem zy_X10_move : zYok MX10_move 2 := ⟨by decide +kernel, by decide +kernel, by decide +kernel⟩
theorem tw_1234 : Cond.instanceMethod yX10_move ∈ zWs := zWs_mem (List.mem_of_getElem? (i := 1234) (by decide +kernel)) rfl
theorem ts_64 : Cond.selects yX10_move.cls yX10_move yX10_move ∈ zWs := zWs_mem (List.mem_of_getElem? (i := 64) (by decide +kernel)) rfl
theorem lvX10_280 : ZLV RX10 280 MX10_move 2 := ⟨⟨tw_1232, tw_1234, ts_64, tw_90, tw_1235⟩, zy_X10_move, Nat.le_of_ble_eq_true rfl⟩
theorem tw_1236 : Cond.methodLink RL 71 yX10_drop ∈ zWs := zWs_mem (List.mem_of_getElem? (i := 1236) (by decide +kernel)) rfl
set_option maxRecDepth 20000 in
theorem tw_1239 : Cond.code yX10_drop MX10_drop.2.1 MX10_drop.2.2.1 MX10_drop.2.2.2 ∈ zWs := zWs_mem (List.mem_of_getElem? (i := 1239) rfl) rfl
theorem zy_X10_drop : zYok MX10_drop 1 := ⟨by decide +kernel, by decide +kernel, by decide +kernel⟩
theorem tw_1237 : Cond.instanceMethod yX10_drop ∈ zWs := zWs_mem (List.mem_of_getElem? (i := 1237) (by decide +kernel)) rfl
theorem tw_1238 : Cond.selects yX10_drop.cls yX10_drop yX10_drop ∈ zWs := zWs_mem (List.mem_of_getElem? (i := 1238) (by decide +kernel)) rfl
theorem lvL_71 : ZLV RL 71 MX10_drop 1 := ⟨⟨tw_1236, tw_1237, tw_1238, tw_90, tw_1239⟩, zy_X10_drop, Nat.le_of_ble_eq_true rfl⟩
theorem tw_1240 : Cond.methodLink RL 74 yX10_matches ∈ zWs := zWs_mem (List.mem_of_getElem? (i := 1240) (by decide +kernel)) rfl
set_option maxRecDepth 20000 in
theorem tw_1243 : Cond.code yX10_matches MX10_matches.2.1 MX10_matches.2.2.1 MX10_matches.2.2.2 ∈ zWs := zWs_mem (List.mem_of_getElem? (i := 1243) rfl) rfl
theorem zy_X10_matches : zYok MX10_matches 1 := ⟨by decide +kernel, by decide +kernel, by decide +kernel⟩
theorem tw_1241 : Cond.instanceMethod yX10_matches ∈ zWs := zWs_mem (List.mem_of_getElem? (i := 1241) (by decide +kernel)) rfl
theorem tw_1242 : Cond.selects yX10_matches.cls yX10_matches yX10_matches ∈ zWs := zWs_mem (List.mem_of_getElem? (i := 1242) (by decide +kernel)) rfl
theorem lvL_74 : ZLV RL 74 MX10_matches 1 := ⟨⟨tw_1240, tw_1241, tw_1242, tw_90, tw_1243⟩, zy_X10_matches, Nat.le_of_ble_eq_true rfl⟩
theorem tw_1244 : Cond.methodLink RX10 304 yX10_heaviest ∈ zWs := zWs_mem (List.mem_of_getElem? (i := 1244) (by decide +kernel)) rfl
set_option maxRecDepth 20000 in
theorem tw_1247 : Cond.code yX10_heaviest MX10_heaviest.2.1 MX10_heaviest.2.2.1 MX10_heaviest.2.2.2 ∈ zWs := zWs_mem (List.mem_of_getElem? (i := 1247) rfl) rfl
theorem zy_X10_heaviest : zYok MX10_heaviest 1 := ⟨by decide +kernel, by decide +kernel, by decide +kernel⟩
theorem tw_1246 : Cond.instanceMethod yX10_heaviest ∈ zWs := zWs_mem (List.mem_of_getElem? (i := 1246) (by decide +kernel)) rfl
theorem ts_65 : Cond.selects yX10_heaviest.cls yX10_heaviest yX10_heaviest ∈ zWs := zWs_mem (List.mem_of_getElem? (i := 65) (by decide +kernel)) rfl
theorem lvX10_304 : ZLV RX10 304 MX10_heaviest 1 := ⟨⟨tw_1244, tw_1246, ts_65, tw_90, tw_1247⟩, zy_X10_heaviest, Nat.le_of_ble_eq_true rfl⟩
theorem tw_1248 : Cond.methodLink RX10 294 yX10_fitting ∈ zWs := zWs_mem (List.mem_of_getElem? (i := 1248) (by decide +kernel)) rfl
set_option maxRecDepth 20000 in
theorem tw_1251 : Cond.code yX10_fitting MX10_fitting.2.1 MX10_fitting.2.2.1 MX10_fitting.2.2.2 ∈ zWs := zWs_mem (List.mem_of_getElem? (i := 1251) rfl) rfl
theorem zy_X10_fitting : zYok MX10_fitting 1 := ⟨by decide +kernel, by decide +kernel, by decide +kernel⟩
theorem tw_1250 : Cond.instanceMethod yX10_fitting ∈ zWs := zWs_mem (List.mem_of_getElem? (i := 1250) (by decide +kernel)) rfl
theorem ts_66 : Cond.selects yX10_fitting.cls yX10_fitting yX10_fitting ∈ zWs := zWs_mem (List.mem_of_getElem? (i := 66) (by decide +kernel)) rfl
theorem lvX10_294 : ZLV RX10 294 MX10_fitting 1 := ⟨⟨tw_1248, tw_1250, ts_66, tw_90, tw_1251⟩, zy_X10_fitting, Nat.le_of_ble_eq_true rfl⟩
theorem tw_1252 : Cond.methodLink RX10 291 yX10_fits ∈ zWs := zWs_mem (List.mem_of_getElem? (i := 1252) (by decide +kernel)) rfl
set_option maxRecDepth 20000 in
theorem tw_1255 : Cond.code yX10_fits MX10_fits.2.1 MX10_fits.2.2.1 MX10_fits.2.2.2 ∈ zWs := zWs_mem (List.mem_of_getElem? (i := 1255) rfl) rfl
theorem zy_X10_fits : zYok MX10_fits 2 := ⟨by decide +kernel, by decide +kernel, by decide +kernel⟩
theorem tw_1254 : Cond.instanceMethod yX10_fits ∈ zWs := zWs_mem (List.mem_of_getElem? (i := 1254) (by decide +kernel)) rfl
theorem ts_67 : Cond.selects yX10_fits.cls yX10_fits yX10_fits ∈ zWs := zWs_mem (List.mem_of_getElem? (i := 67) (by decide +kernel)) rfl
theorem lvX10_291 : ZLV RX10 291 MX10_fits 2 := ⟨⟨tw_1252, tw_1254, ts_67, tw_90, tw_1255⟩, zy_X10_fits, Nat.le_of_ble_eq_true rfl⟩
theorem tw_1256 : Cond.methodLink RX10 287 yX10_holds ∈ zWs := zWs_mem (List.mem_of_getElem? (i := 1256) (by decide +kernel)) rfl
set_option maxRecDepth 20000 in
theorem tw_1259 : Cond.code yX10_holds MX10_holds.2.1 MX10_holds.2.2.1 MX10_holds.2.2.2 ∈ zWs := zWs_mem (List.mem_of_getElem? (i := 1259) rfl) rfl
theorem zy_X10_holds : zYok MX10_holds 2 := ⟨by decide +kernel, by decide +kernel, by decide +kernel⟩
theorem tw_1258 : Cond.instanceMethod yX10_holds ∈ zWs := zWs_mem (List.mem_of_getElem? (i := 1258) (by decide +kernel)) rfl
theorem ts_68 : Cond.selects yX10_holds.cls yX10_holds yX10_holds ∈ zWs := zWs_mem (List.mem_of_getElem? (i := 68) (by decide +kernel)) rfl
theorem lvX10_287 : ZLV RX10 287 MX10_holds 2 := ⟨⟨tw_1256, tw_1258, ts_68, tw_90, tw_1259⟩, zy_X10_holds, Nat.le_of_ble_eq_true rfl⟩
theorem tw_1260 : Cond.methodLink RX10 284 yX10_isLast ∈ zWs := zWs_mem (List.mem_of_getElem? (i := 1260) (by decide +kernel)) rfl
set_option maxRecDepth 20000 in
theorem tw_1263 : Cond.code yX10_isLast MX10_isLast.2.1 MX10_isLast.2.2.1 MX10_isLast.2.2.2 ∈ zWs := zWs_mem (List.mem_of_getElem? (i := 1263) rfl) rfl
theorem zy_X10_isLast : zYok MX10_isLast 1 := ⟨by decide +kernel, by decide +kernel, by decide +kernel⟩
theorem tw_1262 : Cond.instanceMethod yX10_isLast ∈ zWs := zWs_mem (List.mem_of_getElem? (i := 1262) (by decide +kernel)) rfl
theorem ts_69 : Cond.selects yX10_isLast.cls yX10_isLast yX10_isLast ∈ zWs := zWs_mem (List.mem_of_getElem? (i := 69) (by decide +kernel)) rfl
theorem lvX10_284 : ZLV RX10 284 MX10_isLast 1 := ⟨⟨tw_1260, tw_1262, ts_69, tw_90, tw_1263⟩, zy_X10_isLast, Nat.le_of_ble_eq_true rfl⟩
theorem tw_1264 : Cond.methodLink RX10 297 yX10_linked ∈ zWs := zWs_mem (List.mem_of_getElem? (i := 1264) (by decide +kernel)) rfl
set_option maxRecDepth 20000 in
theorem tw_1267 : Cond.code yX10_linked MX10_linked.2.1 MX10_linked.2.2.1 MX10_linked.2.2.2 ∈ zWs := zWs_mem (List.mem_of_getElem? (i := 1267) rfl) rfl
theorem zy_X10_linked : zYok MX10_linked 2 := ⟨by decide +kernel, by decide +kernel, by decide +kernel⟩
theorem tw_1266 : Cond.instanceMethod yX10_linked ∈ zWs := zWs_mem (List.mem_of_getElem? (i := 1266) (by decide +kernel)) rfl
theorem ts_70 : Cond.selects yX10_linked.cls yX10_linked yX10_linked ∈ zWs := zWs_mem (List.mem_of_getElem? (i := 70) (by decide +kernel)) rfl
theorem lvX10_297 : ZLV RX10 297 MX10_linked 2 := ⟨⟨tw_1264, tw_1266, ts_70, tw_90, tw_1267⟩, zy_X10_linked, Nat.le_of_ble_eq_true rfl⟩
theorem tw_1268 : Cond.methodLink RX10 301 yX10_heavy ∈ zWs := zWs_mem (List.mem_of_getElem? (i := 1268) (by decide +kernel)) rfl
set_option maxRecDepth 20000 in
theorem tw_1270 : Cond.code yX10_heavy MX10_heavy.2.1 MX10_heavy.2.2.1 MX10_heavy.2.2.2 ∈ zWs := zWs_mem (List.mem_of_getElem? (i := 1270) rfl) rfl
theorem zy_X10_heavy : zYok MX10_heavy 1 := ⟨by decide +kernel, by decide +kernel, by decide +kernel⟩
theorem tw_1269 : Cond.static yX10_heavy ∈ zWs := zWs_mem (List.mem_of_getElem? (i := 1269) (by decide +kernel)) rfl
theorem lsX10_301 : ZLS RX10 301 MX10_heavy 1 := ⟨⟨tw_1268, tw_1269, tw_90, tw_1270⟩, zy_X10_heavy, Nat.le_of_ble_eq_true rfl⟩
theorem tw_1271 : Cond.methodLink RL 78 yX10_weight ∈ zWs := zWs_mem (List.mem_of_getElem? (i := 1271) (by decide +kernel)) rfl
set_option maxRecDepth 20000 in
theorem tw_1274 : Cond.code yX10_weight MX10_weight.2.1 MX10_weight.2.2.1 MX10_weight.2.2.2 ∈ zWs := zWs_mem (List.mem_of_getElem? (i := 1274) rfl) rfl
theorem zy_X10_weight : zYok MX10_weight 2 := ⟨by decide +kernel, by decide +kernel, by decide +kernel⟩
theorem tw_1272 : Cond.instanceMethod yX10_weight ∈ zWs := zWs_mem (List.mem_of_getElem? (i := 1272) (by decide +kernel)) rfl
theorem tw_1273 : Cond.selects yX10_weight.cls yX10_weight yX10_weight ∈ zWs := zWs_mem (List.mem_of_getElem? (i := 1273) (by decide +kernel)) rfl
theorem lvL_78 : ZLV RL 78 MX10_weight 2 := ⟨⟨tw_1271, tw_1272, tw_1273, tw_90, tw_1274⟩, zy_X10_weight, Nat.le_of_ble_eq_true rfl⟩
theorem tw_1275 : Cond.methodLink RX10 307 yX10_refuse ∈ zWs := zWs_mem (List.mem_of_getElem? (i := 1275) (by decide +kernel)) rfl
set_option maxRecDepth 20000 in
theorem tw_1278 : Cond.code yX10_refuse MX10_refuse.2.1 MX10_refuse.2.2.1 MX10_refuse.2.2.2 ∈ zWs := zWs_mem (List.mem_of_getElem? (i := 1278) rfl) rfl
theorem zy_X10_refuse : zYok MX10_refuse 1 := ⟨by decide +kernel, by decide +kernel, by decide +kernel⟩
theorem tw_1277 : Cond.instanceMethod yX10_refuse ∈ zWs := zWs_mem (List.mem_of_getElem? (i := 1277) (by decide +kernel)) rfl
theorem ts_71 : Cond.selects yX10_refuse.cls yX10_refuse yX10_refuse ∈ zWs := zWs_mem (List.mem_of_getElem? (i := 71) (by decide +kernel)) rfl
theorem lvX10_307 : ZLV RX10 307 MX10_refuse 1 := ⟨⟨tw_1275, tw_1277, ts_71, tw_90, tw_1278⟩, zy_X10_refuse, Nat.le_of_ble_eq_true rfl⟩
theorem tw_1279 : Cond.methodLink RL 81 yX10_winner ∈ zWs := zWs_mem (List.mem_of_getElem? (i := 1279) (by decide +kernel)) rfl
set_option maxRecDepth 20000 in
theorem tw_1282 : Cond.code yX10_winner MX10_winner.2.1 MX10_winner.2.2.1 MX10_winner.2.2.2 ∈ zWs := zWs_mem (List.mem_of_getElem? (i := 1282) rfl) rfl
theorem zy_X10_winner : zYok MX10_winner 2 := ⟨by decide +kernel, by decide +kernel, by decide +kernel⟩
theorem tw_1280 : Cond.instanceMethod yX10_winner ∈ zWs := zWs_mem (List.mem_of_getElem? (i := 1280) (by decide +kernel)) rfl
theorem tw_1281 : Cond.selects yX10_winner.cls yX10_winner yX10_winner ∈ zWs := zWs_mem (List.mem_of_getElem? (i := 1281) (by decide +kernel)) rfl
theorem lvL_81 : ZLV RL 81 MX10_winner 2 := ⟨⟨tw_1279, tw_1280, tw_1281, tw_90, tw_1282⟩, zy_X10_winner, Nat.le_of_ble_eq_true rfl⟩
theorem tw_1283 : Cond.methodLink RX10 313 yX10_survey ∈ zWs := zWs_mem (List.mem_of_getElem? (i := 1283) (by decide +kernel)) rfl
set_option maxRecDepth 20000 in
theorem tw_1286 : Cond.code yX10_survey MX10_survey.2.1 MX10_survey.2.2.1 MX10_survey.2.2.2 ∈ zWs := zWs_mem (List.mem_of_getElem? (i := 1286) rfl) rfl
theorem zy_X10_survey : zYok MX10_survey 0 := ⟨by decide +kernel, by decide +kernel, by decide +kernel⟩
theorem tw_1285 : Cond.instanceMethod yX10_survey ∈ zWs := zWs_mem (List.mem_of_getElem? (i := 1285) (by decide +kernel)) rfl
theorem ts_72 : Cond.selects yX10_survey.cls yX10_survey yX10_survey ∈ zWs := zWs_mem (List.mem_of_getElem? (i := 72) (by decide +kernel)) rfl
theorem lvX10_313 : ZLV RX10 313 MX10_survey 0 := ⟨⟨tw_1283, tw_1285, ts_72, tw_90, tw_1286⟩, zy_X10_survey, Nat.le_of_ble_eq_true rfl⟩
theorem tw_1287 : Cond.methodLink RX10 316 yX10_winnerOf ∈ zWs := zWs_mem (List.mem_of_getElem? (i := 1287) (by decide +kernel)) rfl
set_option maxRecDepth 20000 in
theorem tw_1290 : Cond.code yX10_winnerOf MX10_winnerOf.2.1 MX10_winnerOf.2.2.1 MX10_winnerOf.2.2.2 ∈ zWs := zWs_mem (List.mem_of_getElem? (i := 1290) rfl) rfl
theorem zy_X10_winnerOf : zYok MX10_winnerOf 2 := ⟨by decide +kernel, by decide +kernel, by decide +kernel⟩
theorem tw_1289 : Cond.instanceMethod yX10_winnerOf ∈ zWs := zWs_mem (List.mem_of_getElem? (i := 1289) (by decide +kernel)) rfl
theorem ts_73 : Cond.selects yX10_winnerOf.cls yX10_winnerOf yX10_winnerOf ∈ zWs := zWs_mem (List.mem_of_getElem? (i := 73) (by decide +kernel)) rfl
theorem lvX10_316 : ZLV RX10 316 MX10_winnerOf 2 := ⟨⟨tw_1287, tw_1289, ts_73, tw_90, tw_1290⟩, zy_X10_winnerOf, Nat.le_of_ble_eq_true rfl⟩
theorem tw_1291 : Cond.methodLink RX10 310 yX10_rank ∈ zWs := zWs_mem (List.mem_of_getElem? (i := 1291) (by decide +kernel)) rfl
set_option maxRecDepth 20000 in
theorem tw_1294 : Cond.code yX10_rank MX10_rank.2.1 MX10_rank.2.2.1 MX10_rank.2.2.2 ∈ zWs := zWs_mem (List.mem_of_getElem? (i := 1294) rfl) rfl
theorem zy_X10_rank : zYok MX10_rank 1 := ⟨by decide +kernel, by decide +kernel, by decide +kernel⟩
theorem tw_1293 : Cond.instanceMethod yX10_rank ∈ zWs := zWs_mem (List.mem_of_getElem? (i := 1293) (by decide +kernel)) rfl
theorem ts_74 : Cond.selects yX10_rank.cls yX10_rank yX10_rank ∈ zWs := zWs_mem (List.mem_of_getElem? (i := 74) (by decide +kernel)) rfl
theorem lvX10_310 : ZLV RX10 310 MX10_rank 1 := ⟨⟨tw_1291, tw_1293, ts_74, tw_90, tw_1294⟩, zy_X10_rank, Nat.le_of_ble_eq_true rfl⟩
theorem tw_1295 : Cond.methodLink RL 85 yX10_value ∈ zWs := zWs_mem (List.mem_of_getElem? (i := 1295) (by decide +kernel)) rfl
set_option maxRecDepth 20000 in
theorem tw_1298 : Cond.code yX10_value MX10_value.2.1 MX10_value.2.2.1 MX10_value.2.2.2 ∈ zWs := zWs_mem (List.mem_of_getElem? (i := 1298) rfl) rfl
theorem zy_X10_value : zYok MX10_value 2 := ⟨by decide +kernel, by decide +kernel, by decide +kernel⟩
theorem tw_1296 : Cond.instanceMethod yX10_value ∈ zWs := zWs_mem (List.mem_of_getElem? (i := 1296) (by decide +kernel)) rfl
theorem tw_1297 : Cond.selects yX10_value.cls yX10_value yX10_value ∈ zWs := zWs_mem (List.mem_of_getElem? (i := 1297) (by decide +kernel)) rfl
theorem lvL_85 : ZLV RL 85 MX10_value 2 := ⟨⟨tw_1295, tw_1296, tw_1297, tw_90, tw_1298⟩, zy_X10_value, Nat.le_of_ble_eq_true rfl⟩
theorem tw_1299 : Cond.methodLink RX10 375 yX10_ask ∈ zWs := zWs_mem (List.mem_of_getElem? (i := 1299) (by decide +kernel)) rfl
set_option maxRecDepth 20000 in
theorem tw_1302 : Cond.code yX10_ask MX10_ask.2.1 MX10_ask.2.2.1 MX10_ask.2.2.2 ∈ zWs := zWs_mem (List.mem_of_getElem? (i := 1302) rfl) rfl
theorem zy_X10_ask : zYok MX10_ask 2 := ⟨by decide +kernel, by decide +kernel, by decide +kernel⟩
theorem tw_1301 : Cond.instanceMethod yX10_ask ∈ zWs := zWs_mem (List.mem_of_getElem? (i := 1301) (by decide +kernel)) rfl
theorem ts_75 : Cond.selects yX10_ask.cls yX10_ask yX10_ask ∈ zWs := zWs_mem (List.mem_of_getElem? (i := 75) (by decide +kernel)) rfl
theorem lvX10_375 : ZLV RX10 375 MX10_ask 2 := ⟨⟨tw_1299, tw_1301, ts_75, tw_90, tw_1302⟩, zy_X10_ask, Nat.le_of_ble_eq_true rfl⟩
theorem tw_1303 : Cond.methodLink RX10 369 yX10_above ∈ zWs := zWs_mem (List.mem_of_getElem? (i := 1303) (by decide +kernel)) rfl
set_option maxRecDepth 20000 in
theorem tw_1306 : Cond.code yX10_above MX10_above.2.1 MX10_above.2.2.1 MX10_above.2.2.2 ∈ zWs := zWs_mem (List.mem_of_getElem? (i := 1306) rfl) rfl
theorem zy_X10_above : zYok MX10_above 2 := ⟨by decide +kernel, by decide +kernel, by decide +kernel⟩
theorem tw_1305 : Cond.instanceMethod yX10_above ∈ zWs := zWs_mem (List.mem_of_getElem? (i := 1305) (by decide +kernel)) rfl
theorem ts_76 : Cond.selects yX10_above.cls yX10_above yX10_above ∈ zWs := zWs_mem (List.mem_of_getElem? (i := 76) (by decide +kernel)) rfl
theorem lvX10_369 : ZLV RX10 369 MX10_above 2 := ⟨⟨tw_1303, tw_1305, ts_76, tw_90, tw_1306⟩, zy_X10_above, Nat.le_of_ble_eq_true rfl⟩
theorem tw_1307 : Cond.methodLink RX10 372 yX10_find ∈ zWs := zWs_mem (List.mem_of_getElem? (i := 1307) (by decide +kernel)) rfl
set_option maxRecDepth 20000 in
theorem tw_1310 : Cond.code yX10_find MX10_find.2.1 MX10_find.2.2.1 MX10_find.2.2.2 ∈ zWs := zWs_mem (List.mem_of_getElem? (i := 1310) rfl) rfl
theorem zy_X10_find : zYok MX10_find 2 := ⟨by decide +kernel, by decide +kernel, by decide +kernel⟩
theorem tw_1309 : Cond.instanceMethod yX10_find ∈ zWs := zWs_mem (List.mem_of_getElem? (i := 1309) (by decide +kernel)) rfl
theorem ts_77 : Cond.selects yX10_find.cls yX10_find yX10_find ∈ zWs := zWs_mem (List.mem_of_getElem? (i := 77) (by decide +kernel)) rfl
theorem lvX10_372 : ZLV RX10 372 MX10_find 2 := ⟨⟨tw_1307, tw_1309, ts_77, tw_90, tw_1310⟩, zy_X10_find, Nat.le_of_ble_eq_true rfl⟩
theorem tw_1311 : Cond.methodLink RX10 360 yX10_work ∈ zWs := zWs_mem (List.mem_of_getElem? (i := 1311) (by decide +kernel)) rfl
set_option maxRecDepth 20000 in
theorem tw_1314 : Cond.code yX10_work MX10_work.2.1 MX10_work.2.2.1 MX10_work.2.2.2 ∈ zWs := zWs_mem (List.mem_of_getElem? (i := 1314) rfl) rfl
theorem zy_X10_work : zYok MX10_work 3 := ⟨by decide +kernel, by decide +kernel, by decide +kernel⟩
theorem tw_1313 : Cond.instanceMethod yX10_work ∈ zWs := zWs_mem (List.mem_of_getElem? (i := 1313) (by decide +kernel)) rfl
theorem ts_78 : Cond.selects yX10_work.cls yX10_work yX10_work ∈ zWs := zWs_mem (List.mem_of_getElem? (i := 78) (by decide +kernel)) rfl
theorem lvX10_360 : ZLV RX10 360 MX10_work 3 := ⟨⟨tw_1311, tw_1313, ts_78, tw_90, tw_1314⟩, zy_X10_work, Nat.le_of_ble_eq_true rfl⟩
theorem tw_1315 : Cond.methodLink RX10 335 yX10_beginSum ∈ zWs := zWs_mem (List.mem_of_getElem? (i := 1315) (by decide +kernel)) rfl
set_option maxRecDepth 20000 in
theorem tw_1318 : Cond.code yX10_beginSum MX10_beginSum.2.1 MX10_beginSum.2.2.1 MX10_beginSum.2.2.2 ∈ zWs := zWs_mem (List.mem_of_getElem? (i := 1318) rfl) rfl
theorem zy_X10_beginSum : zYok MX10_beginSum 3 := ⟨by decide +kernel, by decide +kernel, by decide +kernel⟩
theorem tw_1317 : Cond.instanceMethod yX10_beginSum ∈ zWs := zWs_mem (List.mem_of_getElem? (i := 1317) (by decide +kernel)) rfl
theorem ts_79 : Cond.selects yX10_beginSum.cls yX10_beginSum yX10_beginSum ∈ zWs := zWs_mem (List.mem_of_getElem? (i := 79) (by decide +kernel)) rfl
theorem lvX10_335 : ZLV RX10 335 MX10_beginSum 3 := ⟨⟨tw_1315, tw_1317, ts_79, tw_90, tw_1318⟩, zy_X10_beginSum, Nat.le_of_ble_eq_true rfl⟩
theorem tw_1319 : Cond.methodLink RX10 339 yX10_endSum ∈ zWs := zWs_mem (List.mem_of_getElem? (i := 1319) (by decide +kernel)) rfl
set_option maxRecDepth 20000 in
theorem tw_1322 : Cond.code yX10_endSum MX10_endSum.2.1 MX10_endSum.2.2.1 MX10_endSum.2.2.2 ∈ zWs := zWs_mem (List.mem_of_getElem? (i := 1322) rfl) rfl
theorem zy_X10_endSum : zYok MX10_endSum 0 := ⟨by decide +kernel, by decide +kernel, by decide +kernel⟩
theorem tw_1321 : Cond.instanceMethod yX10_endSum ∈ zWs := zWs_mem (List.mem_of_getElem? (i := 1321) (by decide +kernel)) rfl
theorem ts_80 : Cond.selects yX10_endSum.cls yX10_endSum yX10_endSum ∈ zWs := zWs_mem (List.mem_of_getElem? (i := 80) (by decide +kernel)) rfl
theorem lvX10_339 : ZLV RX10 339 MX10_endSum 0 := ⟨⟨tw_1319, tw_1321, ts_80, tw_90, tw_1322⟩, zy_X10_endSum, Nat.le_of_ble_eq_true rfl⟩
theorem tw_1323 : Cond.methodLink RX10 342 yX10_fontOf ∈ zWs := zWs_mem (List.mem_of_getElem? (i := 1323) (by decide +kernel)) rfl
set_option maxRecDepth 20000 in
theorem tw_1326 : Cond.code yX10_fontOf MX10_fontOf.2.1 MX10_fontOf.2.2.1 MX10_fontOf.2.2.2 ∈ zWs := zWs_mem (List.mem_of_getElem? (i := 1326) rfl) rfl
theorem zy_X10_fontOf : zYok MX10_fontOf 2 := ⟨by decide +kernel, by decide +kernel, by decide +kernel⟩
theorem tw_1325 : Cond.instanceMethod yX10_fontOf ∈ zWs := zWs_mem (List.mem_of_getElem? (i := 1325) (by decide +kernel)) rfl
theorem ts_81 : Cond.selects yX10_fontOf.cls yX10_fontOf yX10_fontOf ∈ zWs := zWs_mem (List.mem_of_getElem? (i := 81) (by decide +kernel)) rfl
theorem lvX10_342 : ZLV RX10 342 MX10_fontOf 2 := ⟨⟨tw_1323, tw_1325, ts_81, tw_90, tw_1326⟩, zy_X10_fontOf, Nat.le_of_ble_eq_true rfl⟩
theorem tw_1329 : Cond.methodLink RX10 347 yX10_wantsPlain ∈ zWs := zWs_mem (List.mem_of_getElem? (i := 1329) (by decide +kernel)) rfl
set_option maxRecDepth 20000 in
theorem tw_1331 : Cond.code yX10_wantsPlain MX10_wantsPlain.2.1 MX10_wantsPlain.2.2.1 MX10_wantsPlain.2.2.2 ∈ zWs := zWs_mem (List.mem_of_getElem? (i := 1331) rfl) rfl
theorem zy_X10_wantsPlain : zYok MX10_wantsPlain 1 := ⟨by decide +kernel, by decide +kernel, by decide +kernel⟩
theorem tw_1330 : Cond.static yX10_wantsPlain ∈ zWs := zWs_mem (List.mem_of_getElem? (i := 1330) (by decide +kernel)) rfl
theorem lsX10_347 : ZLS RX10 347 MX10_wantsPlain 1 := ⟨⟨tw_1329, tw_1330, tw_90, tw_1331⟩, zy_X10_wantsPlain, Nat.le_of_ble_eq_true rfl⟩
theorem tw_1332 : Cond.methodLink RX10 331 yX10_push ∈ zWs := zWs_mem (List.mem_of_getElem? (i := 1332) (by decide +kernel)) rfl
set_option maxRecDepth 20000 in
theorem tw_1335 : Cond.code yX10_push MX10_push.2.1 MX10_push.2.2.1 MX10_push.2.2.2 ∈ zWs := zWs_mem (List.mem_of_getElem? (i := 1335) rfl) rfl
theorem zy_X10_push : zYok MX10_push 2 := ⟨by decide +kernel, by decide +kernel, by decide +kernel⟩
theorem tw_1334 : Cond.instanceMethod yX10_push ∈ zWs := zWs_mem (List.mem_of_getElem? (i := 1334) (by decide +kernel)) rfl
theorem ts_82 : Cond.selects yX10_push.cls yX10_push yX10_push ∈ zWs := zWs_mem (List.mem_of_getElem? (i := 82) (by decide +kernel)) rfl
theorem lvX10_331 : ZLV RX10 331 MX10_push 2 := ⟨⟨tw_1332, tw_1334, ts_82, tw_90, tw_1335⟩, zy_X10_push, Nat.le_of_ble_eq_true rfl⟩
theorem tw_1338 : Cond.methodLink RX10 350 yX10_lookUp ∈ zWs := zWs_mem (List.mem_of_getElem? (i := 1338) (by decide +kernel)) rfl
set_option maxRecDepth 20000 in
theorem tw_1341 : Cond.code yX10_lookUp MX10_lookUp.2.1 MX10_lookUp.2.2.1 MX10_lookUp.2.2.2 ∈ zWs := zWs_mem (List.mem_of_getElem? (i := 1341) rfl) rfl
theorem zy_X10_lookUp : zYok MX10_lookUp 1 := ⟨by decide +kernel, by decide +kernel, by decide +kernel⟩
theorem tw_1340 : Cond.instanceMethod yX10_lookUp ∈ zWs := zWs_mem (List.mem_of_getElem? (i := 1340) (by decide +kernel)) rfl
theorem ts_83 : Cond.selects yX10_lookUp.cls yX10_lookUp yX10_lookUp ∈ zWs := zWs_mem (List.mem_of_getElem? (i := 83) (by decide +kernel)) rfl
theorem lvX10_350 : ZLV RX10 350 MX10_lookUp 1 := ⟨⟨tw_1338, tw_1340, ts_83, tw_90, tw_1341⟩, zy_X10_lookUp, Nat.le_of_ble_eq_true rfl⟩
theorem tw_1342 : Cond.methodLink RX10 353 yX10_both ∈ zWs := zWs_mem (List.mem_of_getElem? (i := 1342) (by decide +kernel)) rfl
set_option maxRecDepth 20000 in
theorem tw_1345 : Cond.code yX10_both MX10_both.2.1 MX10_both.2.2.1 MX10_both.2.2.2 ∈ zWs := zWs_mem (List.mem_of_getElem? (i := 1345) rfl) rfl
theorem zy_X10_both : zYok MX10_both 1 := ⟨by decide +kernel, by decide +kernel, by decide +kernel⟩
theorem tw_1344 : Cond.instanceMethod yX10_both ∈ zWs := zWs_mem (List.mem_of_getElem? (i := 1344) (by decide +kernel)) rfl
theorem ts_84 : Cond.selects yX10_both.cls yX10_both yX10_both ∈ zWs := zWs_mem (List.mem_of_getElem? (i := 84) (by decide +kernel)) rfl
theorem lvX10_353 : ZLV RX10 353 MX10_both 1 := ⟨⟨tw_1342, tw_1344, ts_84, tw_90, tw_1345⟩, zy_X10_both, Nat.le_of_ble_eq_true rfl⟩
theorem tw_1346 : Cond.methodLink RX10 366 yX10_handed ∈ zWs := zWs_mem (List.mem_of_getElem? (i := 1346) (by decide +kernel)) rfl
set_option maxRecDepth 20000 in
theorem tw_1349 : Cond.code yX10_handed MX10_handed.2.1 MX10_handed.2.2.1 MX10_handed.2.2.2 ∈ zWs := zWs_mem (List.mem_of_getElem? (i := 1349) rfl) rfl
theorem zy_X10_handed : zYok MX10_handed 2 := ⟨by decide +kernel, by decide +kernel, by decide +kernel⟩
theorem tw_1348 : Cond.instanceMethod yX10_handed ∈ zWs := zWs_mem (List.mem_of_getElem? (i := 1348) (by decide +kernel)) rfl
theorem ts_85 : Cond.selects yX10_handed.cls yX10_handed yX10_handed ∈ zWs := zWs_mem (List.mem_of_getElem? (i := 85) (by decide +kernel)) rfl
theorem lvX10_366 : ZLV RX10 366 MX10_handed 2 := ⟨⟨tw_1346, tw_1348, ts_85, tw_90, tw_1349⟩, zy_X10_handed, Nat.le_of_ble_eq_true rfl⟩
theorem tw_1350 : Cond.methodLink RX10 356 yX10_initial ∈ zWs := zWs_mem (List.mem_of_getElem? (i := 1350) (by decide +kernel)) rfl
set_option maxRecDepth 20000 in
theorem tw_1352 : Cond.code yX10_initial MX10_initial.2.1 MX10_initial.2.2.1 MX10_initial.2.2.2 ∈ zWs := zWs_mem (List.mem_of_getElem? (i := 1352) rfl) rfl
theorem zy_X10_initial : zYok MX10_initial 1 := ⟨by decide +kernel, by decide +kernel, by decide +kernel⟩
theorem tw_1351 : Cond.static yX10_initial ∈ zWs := zWs_mem (List.mem_of_getElem? (i := 1351) (by decide +kernel)) rfl
theorem lsX10_356 : ZLS RX10 356 MX10_initial 1 := ⟨⟨tw_1350, tw_1351, tw_90, tw_1352⟩, zy_X10_initial, Nat.le_of_ble_eq_true rfl⟩
theorem tw_1353 : Cond.methodLink RL 88 yX10_how ∈ zWs := zWs_mem (List.mem_of_getElem? (i := 1353) (by decide +kernel)) rfl
set_option maxRecDepth 20000 in
theorem tw_1356 : Cond.code yX10_how MX10_how.2.1 MX10_how.2.2.1 MX10_how.2.2.2 ∈ zWs := zWs_mem (List.mem_of_getElem? (i := 1356) rfl) rfl
theorem zy_X10_how : zYok MX10_how 2 := ⟨by decide +kernel, by decide +kernel, by decide +kernel⟩
theorem tw_1354 : Cond.instanceMethod yX10_how ∈ zWs := zWs_mem (List.mem_of_getElem? (i := 1354) (by decide +kernel)) rfl
theorem tw_1355 : Cond.selects yX10_how.cls yX10_how yX10_how ∈ zWs := zWs_mem (List.mem_of_getElem? (i := 1355) (by decide +kernel)) rfl
theorem lvL_88 : ZLV RL 88 MX10_how 2 := ⟨⟨tw_1353, tw_1354, tw_1355, tw_90, tw_1356⟩, zy_X10_how, Nat.le_of_ble_eq_true rfl⟩
theorem tw_1357 : Cond.methodLink RL 92 yX10_count ∈ zWs := zWs_mem (List.mem_of_getElem? (i := 1357) (by decide +kernel)) rfl
set_option maxRecDepth 20000 in
theorem tw_1360 : Cond.code yX10_count MX10_count.2.1 MX10_count.2.2.1 MX10_count.2.2.2 ∈ zWs := zWs_mem (List.mem_of_getElem? (i := 1360) rfl) rfl
theorem zy_X10_count : zYok MX10_count 1 := ⟨by decide +kernel, by decide +kernel, by decide +kernel⟩
theorem tw_1358 : Cond.instanceMethod yX10_count ∈ zWs := zWs_mem (List.mem_of_getElem? (i := 1358) (by decide +kernel)) rfl
theorem tw_1359 : Cond.selects yX10_count.cls yX10_count yX10_count ∈ zWs := zWs_mem (List.mem_of_getElem? (i := 1359) (by decide +kernel)) rfl
theorem lvL_92 : ZLV RL 92 MX10_count 1 := ⟨⟨tw_1357, tw_1358, tw_1359, tw_90, tw_1360⟩, zy_X10_count, Nat.le_of_ble_eq_true rfl⟩
theorem tw_152 : Cond.arrayClass .char ∈ zWs := zWs_mem (List.mem_of_getElem? (i := 152) (by decide +kernel)) rfl
theorem tw_153 : Cond.arrayClass .int ∈ zWs := zWs_mem (List.mem_of_getElem? (i := 153) (by decide +kernel)) rfl
theorem tw_154 : Cond.arrayClass .float ∈ zWs := zWs_mem (List.mem_of_getElem? (i := 154) (by decide +kernel)) rfl
theorem tw_336 : Cond.constant RJ6 265 1431655765 ∈ zWs := zWs_mem (List.mem_of_getElem? (i := 336) (by decide +kernel)) rfl
theorem tw_337 : Cond.constant RJ6 266 858993459 ∈ zWs := zWs_mem (List.mem_of_getElem? (i := 337) (by decide +kernel)) rfl
theorem tw_338 : Cond.constant RJ6 267 252645135 ∈ zWs := zWs_mem (List.mem_of_getElem? (i := 338) (by decide +kernel)) rfl
theorem lwX8_82 : ∀ w ∈ [Cond.static MX9_isLetter.1, .initialized MX9_isLetter.1.cls, .code MX9_isLetter.1 MX9_isLetter.2.1 MX9_isLetter.2.2.1 MX9_isLetter.2.2.2], w ∈ zWs := List.forall_mem_cons.mpr ⟨tw_248, List.forall_mem_cons.mpr ⟨tw_87, List.forall_mem_cons.mpr ⟨tw_249, fun _ h => absurd h List.not_mem_nil⟩⟩⟩
theorem tw_659 : Cond.static yX9_isDigit ∈ zWs := zWs_mem (List.mem_of_getElem? (i := 659) (by decide +kernel)) rfl
set_option maxRecDepth 20000 in
theorem tw_660 : Cond.code yX9_isDigit MX9_isDigit.2.1 MX9_isDigit.2.2.1 MX9_isDigit.2.2.2 ∈ zWs := zWs_mem (List.mem_of_getElem? (i := 660) rfl) rfl
theorem lwX8_174 : ∀ w ∈ [Cond.static MX9_isDigit.1, .initialized MX9_isDigit.1.cls, .code MX9_isDigit.1 MX9_isDigit.2.1 MX9_isDigit.2.2.1 MX9_isDigit.2.2.2], w ∈ zWs := List.forall_mem_cons.mpr ⟨tw_659, List.forall_mem_cons.mpr ⟨tw_87, List.forall_mem_cons.mpr ⟨tw_660, fun _ h => absurd h List.not_mem_nil⟩⟩⟩
theorem tw_661 : Cond.constantFloat RX8 177 1092616192 ∈ zWs := zWs_mem (List.mem_of_getElem? (i := 661) (by decide +kernel)) rfl
theorem tw_718 : Cond.arrayClass .byte ∈ zWs := zWs_mem (List.mem_of_getElem? (i := 718) (by decide +kernel)) rfl
theorem tw_871 : Cond.constantFloat RX4 52 1098907648 ∈ zWs := zWs_mem (List.mem_of_getElem? (i := 871) (by decide +kernel)) rfl
theorem tw_897 : Cond.constantFloat RX4 130 1232348160 ∈ zWs := zWs_mem (List.mem_of_getElem? (i := 897) (by decide +kernel)) rfl
theorem tw_898 : Cond.constantFloat RX4 131 3379831808 ∈ zWs := zWs_mem (List.mem_of_getElem? (i := 898) (by decide +kernel)) rfl
theorem tw_903 : Cond.constantFloat RX4 132 1120403456 ∈ zWs := zWs_mem (List.mem_of_getElem? (i := 903) (by decide +kernel)) rfl
theorem tw_1097 : Cond.arrayClass .boolean ∈ zWs := zWs_mem (List.mem_of_getElem? (i := 1097) (by decide +kernel)) rfl
theorem tw_1216 : Cond.constantFloat RX10 230 1092616192 ∈ zWs := zWs_mem (List.mem_of_getElem? (i := 1216) (by decide +kernel)) rfl
theorem tw_1327 : Cond.constantFloat RX10 327 1098907648 ∈ zWs := zWs_mem (List.mem_of_getElem? (i := 1327) (by decide +kernel)) rfl
theorem tw_1328 : Cond.constantFloat RX10 346 1120403456 ∈ zWs := zWs_mem (List.mem_of_getElem? (i := 1328) (by decide +kernel)) rfl
theorem tw_1336 : Cond.constantFloat RX10 322 1232348160 ∈ zWs := zWs_mem (List.mem_of_getElem? (i := 1336) (by decide +kernel)) rfl
theorem tw_1337 : Cond.constantFloat RX10 323 3379831808 ∈ zWs := zWs_mem (List.mem_of_getElem? (i := 1337) (by decide +kernel)) rfl
theorem tw_1361 : Cond.arrayClass .long ∈ zWs := zWs_mem (List.mem_of_getElem? (i := 1361) (by decide +kernel)) rfl
theorem tw_1362 : Cond.arrayClass .double ∈ zWs := zWs_mem (List.mem_of_getElem? (i := 1362) (by decide +kernel)) rfl
theorem tw_118 : Cond.instanceMethod Lib.objectInit ∈ zWs := zWs_mem (List.mem_of_getElem? (i := 118) (by decide +kernel)) rfl
set_option maxRecDepth 20000 in
theorem tw_119 : Cond.code Lib.objectInit ⟨#[0xb1]⟩ 1 none ∈ zWs := zWs_mem (List.mem_of_getElem? (i := 119) rfl) rfl
theorem zYok_of {M : ZMeth} {n : Nat} (h : zYok M n) : zYok M n := h
theorem kc_m1 : Int32.ofInt (-1) = (-1) := by decide +kernel
theorem kc_0 : Int32.ofInt (0) = nI 0 := by decide +kernel
theorem kc_1 : Int32.ofInt (1) = nI 1 := by decide +kernel
theorem kc_2 : Int32.ofInt (2) = nI 2 := by decide +kernel
theorem kc_3 : Int32.ofInt (3) = nI 3 := by decide +kernel
theorem kc_4 : Int32.ofInt (4) = nI 4 := by decide +kernel
theorem kc_5 : Int32.ofInt (5) = nI 5 := by decide +kernel
theorem kb_m2 : (Int8.ofInt (-2)).toInt32 = (-2) := by decide +kernel
theorem kb_6 : (Int8.ofInt (6)).toInt32 = nI 6 := by decide +kernel
theorem kb_7 : (Int8.ofInt (7)).toInt32 = nI 7 := by decide +kernel
theorem kb_8 : (Int8.ofInt (8)).toInt32 = nI 8 := by decide +kernel
theorem kb_9 : (Int8.ofInt (9)).toInt32 = nI 9 := by decide +kernel
theorem kb_10 : (Int8.ofInt (10)).toInt32 = nI 10 := by decide +kernel
theorem kb_11 : (Int8.ofInt (11)).toInt32 = nI 11 := by decide +kernel
theorem kb_12 : (Int8.ofInt (12)).toInt32 = nI 12 := by decide +kernel
theorem kb_15 : (Int8.ofInt (15)).toInt32 = nI 15 := by decide +kernel
theorem kb_16 : (Int8.ofInt (16)).toInt32 = nI 16 := by decide +kernel
theorem kb_17 : (Int8.ofInt (17)).toInt32 = nI 17 := by decide +kernel
theorem kb_20 : (Int8.ofInt (20)).toInt32 = nI 20 := by decide +kernel
theorem kb_24 : (Int8.ofInt (24)).toInt32 = nI 24 := by decide +kernel
theorem kb_32 : (Int8.ofInt (32)).toInt32 = nI 32 := by decide +kernel
theorem kb_33 : (Int8.ofInt (33)).toInt32 = nI 33 := by decide +kernel
theorem kb_35 : (Int8.ofInt (35)).toInt32 = nI 35 := by decide +kernel
theorem kb_36 : (Int8.ofInt (36)).toInt32 = nI 36 := by decide +kernel
theorem kb_37 : (Int8.ofInt (37)).toInt32 = nI 37 := by decide +kernel
theorem kb_40 : (Int8.ofInt (40)).toInt32 = nI 40 := by decide +kernel
theorem kb_41 : (Int8.ofInt (41)).toInt32 = nI 41 := by decide +kernel
theorem kb_42 : (Int8.ofInt (42)).toInt32 = nI 42 := by decide +kernel
theorem kb_43 : (Int8.ofInt (43)).toInt32 = nI 43 := by decide +kernel
theorem kb_44 : (Int8.ofInt (44)).toInt32 = nI 44 := by decide +kernel
theorem kb_45 : (Int8.ofInt (45)).toInt32 = nI 45 := by decide +kernel
theorem kb_46 : (Int8.ofInt (46)).toInt32 = nI 46 := by decide +kernel
theorem kb_47 : (Int8.ofInt (47)).toInt32 = nI 47 := by decide +kernel
theorem kb_48 : (Int8.ofInt (48)).toInt32 = nI 48 := by decide +kernel
theorem kb_57 : (Int8.ofInt (57)).toInt32 = nI 57 := by decide +kernel
theorem kb_58 : (Int8.ofInt (58)).toInt32 = nI 58 := by decide +kernel
theorem kb_59 : (Int8.ofInt (59)).toInt32 = nI 59 := by decide +kernel
theorem kb_62 : (Int8.ofInt (62)).toInt32 = nI 62 := by decide +kernel
theorem kb_63 : (Int8.ofInt (63)).toInt32 = nI 63 := by decide +kernel
theorem kb_64 : (Int8.ofInt (64)).toInt32 = nI 64 := by decide +kernel
theorem kb_96 : (Int8.ofInt (96)).toInt32 = nI 96 := by decide +kernel
theorem kb_97 : (Int8.ofInt (97)).toInt32 = nI 97 := by decide +kernel
theorem kb_99 : (Int8.ofInt (99)).toInt32 = nI 99 := by decide +kernel
theorem kb_100 : (Int8.ofInt (100)).toInt32 = nI 100 := by decide +kernel
theorem kb_101 : (Int8.ofInt (101)).toInt32 = nI 101 := by decide +kernel
theorem kb_102 : (Int8.ofInt (102)).toInt32 = nI 102 := by decide +kernel
theorem kb_104 : (Int8.ofInt (104)).toInt32 = nI 104 := by decide +kernel
theorem kb_105 : (Int8.ofInt (105)).toInt32 = nI 105 := by decide +kernel
theorem kb_108 : (Int8.ofInt (108)).toInt32 = nI 108 := by decide +kernel
theorem kb_109 : (Int8.ofInt (109)).toInt32 = nI 109 := by decide +kernel
theorem kb_110 : (Int8.ofInt (110)).toInt32 = nI 110 := by decide +kernel
theorem kb_112 : (Int8.ofInt (112)).toInt32 = nI 112 := by decide +kernel
theorem kb_114 : (Int8.ofInt (114)).toInt32 = nI 114 := by decide +kernel
theorem kb_116 : (Int8.ofInt (116)).toInt32 = nI 116 := by decide +kernel
theorem kb_119 : (Int8.ofInt (119)).toInt32 = nI 119 := by decide +kernel
theorem kb_120 : (Int8.ofInt (120)).toInt32 = nI 120 := by decide +kernel
theorem kb_122 : (Int8.ofInt (122)).toInt32 = nI 122 := by decide +kernel
theorem kb_123 : (Int8.ofInt (123)).toInt32 = nI 123 := by decide +kernel
theorem kb_125 : (Int8.ofInt (125)).toInt32 = nI 125 := by decide +kernel
theorem kb_126 : (Int8.ofInt (126)).toInt32 = nI 126 := by decide +kernel
theorem ks_130 : (Int16.ofInt (130)).toInt32 = nI 130 := by decide +kernel
theorem ks_144 : (Int16.ofInt (144)).toInt32 = nI 144 := by decide +kernel
theorem ks_255 : (Int16.ofInt (255)).toInt32 = nI 255 := by decide +kernel
theorem ks_384 : (Int16.ofInt (384)).toInt32 = nI 384 := by decide +kernel
theorem ks_1920 : (Int16.ofInt (1920)).toInt32 = nI 1920 := by decide +kernel
theorem ks_2040 : (Int16.ofInt (2040)).toInt32 = nI 2040 := by decide +kernel
theorem ks_3000 : (Int16.ofInt (3000)).toInt32 = nI 3000 := by decide +kernel
theorem ks_10000 : (Int16.ofInt (10000)).toInt32 = nI 10000 := by decide +kernel

def ZLSW (own : String) (idx : Nat) (M : ZMeth) (n : Nat) : Prop := (Cond.methodLink own idx M.1 ∈ zWs ∧ Cond.static M.1 ∈ zWs ∧ Cond.initialized M.1.cls ∈ zWs ∧ Cond.codeWith M.1 M.2.1 M.2.2.1 M.2.2.2 (zhh M.1) ∈ zWs) ∧ zYok M n ∧ M.2.2.1 ≤ 40
theorem tw_234 : Cond.methodLink RL 49 yL_element ∈ zWs := zWs_mem (List.mem_of_getElem? (i := 234) (by decide +kernel)) rfl
theorem tw_235 : Cond.static yL_element ∈ zWs := zWs_mem (List.mem_of_getElem? (i := 235) (by decide +kernel)) rfl
theorem tw_86 : Cond.initialized yL_element.cls ∈ zWs := zWs_mem (List.mem_of_getElem? (i := 86) (by decide +kernel)) rfl
set_option maxRecDepth 20000 in
theorem tw_236 : Cond.codeWith yL_element ML_element.2.1 ML_element.2.2.1 ML_element.2.2.2 (zhh yL_element) ∈ zWs := zWs_mem (List.mem_of_getElem? (i := 236) rfl) rfl
theorem zy_L_element : zYok ML_element 6 := ⟨by decide +kernel, by decide +kernel, by decide +kernel⟩
theorem lsL_49 : ZLSW RL 49 ML_element 6 := ⟨⟨tw_234, tw_235, tw_86, tw_236⟩, zy_L_element, Nat.le_of_ble_eq_true rfl⟩
theorem tw_237 : Cond.classLink "StyleDeskLaw" 13 "java/lang/IllegalArgumentException" ∈ zWs := zWs_mem (List.mem_of_getElem? (i := 237) (by decide +kernel)) rfl
theorem tw_94 : Cond.initialized "java/lang/IllegalArgumentException" ∈ zWs := zWs_mem (List.mem_of_getElem? (i := 94) (by decide +kernel)) rfl
theorem tw_238 : Cond.classLink "StyleDeskLaw" 15 "java/lang/IllegalStateException" ∈ zWs := zWs_mem (List.mem_of_getElem? (i := 238) (by decide +kernel)) rfl
theorem tw_95 : Cond.initialized "java/lang/IllegalStateException" ∈ zWs := zWs_mem (List.mem_of_getElem? (i := 95) (by decide +kernel)) rfl
theorem tw_250 : Cond.classLink "StyleDesk" 53 "java/lang/IllegalArgumentException" ∈ zWs := zWs_mem (List.mem_of_getElem? (i := 250) (by decide +kernel)) rfl
theorem tw_313 : Cond.classLink "StyleDesk" 56 "java/lang/IllegalStateException" ∈ zWs := zWs_mem (List.mem_of_getElem? (i := 313) (by decide +kernel)) rfl
theorem tw_426 : Cond.methodLink RL 64 yL_rule ∈ zWs := zWs_mem (List.mem_of_getElem? (i := 426) (by decide +kernel)) rfl
theorem tw_427 : Cond.static yL_rule ∈ zWs := zWs_mem (List.mem_of_getElem? (i := 427) (by decide +kernel)) rfl
set_option maxRecDepth 20000 in
theorem tw_428 : Cond.codeWith yL_rule ML_rule.2.1 ML_rule.2.2.1 ML_rule.2.2.2 (zhh yL_rule) ∈ zWs := zWs_mem (List.mem_of_getElem? (i := 428) rfl) rfl
theorem zy_L_rule : zYok ML_rule 3 := ⟨by decide +kernel, by decide +kernel, by decide +kernel⟩
theorem lsL_64 : ZLSW RL 64 ML_rule 3 := ⟨⟨tw_426, tw_427, tw_86, tw_428⟩, zy_L_rule, Nat.le_of_ble_eq_true rfl⟩
theorem tw_593 : Cond.methodLink "java/lang/String" 335 yJ0_coder_7d493 ∈ zWs := zWs_mem (List.mem_of_getElem? (i := 593) (by decide +kernel)) rfl
set_option maxRecDepth 20000 in
theorem tw_596 : Cond.code yJ0_coder_7d493 MJ0_coder_7d493.2.1 MJ0_coder_7d493.2.2.1 MJ0_coder_7d493.2.2.2 ∈ zWs := zWs_mem (List.mem_of_getElem? (i := 596) rfl) rfl
theorem zy_J0_coder_7d493 : zYok MJ0_coder_7d493 0 := ⟨by decide +kernel, by decide +kernel, by decide +kernel⟩
theorem tw_594 : Cond.instanceMethod yJ0_coder_7d493 ∈ zWs := zWs_mem (List.mem_of_getElem? (i := 594) (by decide +kernel)) rfl
theorem tw_595 : Cond.selects yJ0_coder_7d493.cls yJ0_coder_7d493 yJ0_coder_7d493 ∈ zWs := zWs_mem (List.mem_of_getElem? (i := 595) (by decide +kernel)) rfl
theorem lvJ0_335 : ZLV "java/lang/String" 335 MJ0_coder_7d493 0 := ⟨⟨tw_593, tw_594, tw_595, tw_102, tw_596⟩, zy_J0_coder_7d493, Nat.le_of_ble_eq_true rfl⟩
theorem tw_597 : Cond.fieldLink "java/lang/String" 38 "java/lang/String" "COMPACT_STRINGS" "Z" ∈ zWs := zWs_mem (List.mem_of_getElem? (i := 597) (by decide +kernel)) rfl
theorem tw_603 : Cond.methodLink "java/lang/String" 492 yJ0_isLatin1_aae02 ∈ zWs := zWs_mem (List.mem_of_getElem? (i := 603) (by decide +kernel)) rfl
set_option maxRecDepth 20000 in
theorem tw_606 : Cond.code yJ0_isLatin1_aae02 MJ0_isLatin1_aae02.2.1 MJ0_isLatin1_aae02.2.2.1 MJ0_isLatin1_aae02.2.2.2 ∈ zWs := zWs_mem (List.mem_of_getElem? (i := 606) rfl) rfl
theorem zy_J0_isLatin1_aae02 : zYok MJ0_isLatin1_aae02 0 := ⟨by decide +kernel, by decide +kernel, by decide +kernel⟩
theorem tw_604 : Cond.instanceMethod yJ0_isLatin1_aae02 ∈ zWs := zWs_mem (List.mem_of_getElem? (i := 604) (by decide +kernel)) rfl
theorem tw_605 : Cond.selects yJ0_isLatin1_aae02.cls yJ0_isLatin1_aae02 yJ0_isLatin1_aae02 ∈ zWs := zWs_mem (List.mem_of_getElem? (i := 605) (by decide +kernel)) rfl
theorem lvJ0_492 : ZLV "java/lang/String" 492 MJ0_isLatin1_aae02 0 := ⟨⟨tw_603, tw_604, tw_605, tw_102, tw_606⟩, zy_J0_isLatin1_aae02, Nat.le_of_ble_eq_true rfl⟩
theorem tw_607 : Cond.methodLink "java/lang/String" 495 yJ1_charAt_3b067 ∈ zWs := zWs_mem (List.mem_of_getElem? (i := 607) (by decide +kernel)) rfl
set_option maxRecDepth 20000 in
theorem tw_609 : Cond.code yJ1_charAt_3b067 MJ1_charAt_3b067.2.1 MJ1_charAt_3b067.2.2.1 MJ1_charAt_3b067.2.2.2 ∈ zWs := zWs_mem (List.mem_of_getElem? (i := 609) rfl) rfl
theorem tw_103 : Cond.initialized yJ1_charAt_3b067.cls ∈ zWs := zWs_mem (List.mem_of_getElem? (i := 103) (by decide +kernel)) rfl
theorem zy_J1_charAt_3b067 : zYok MJ1_charAt_3b067 2 := ⟨by decide +kernel, by decide +kernel, by decide +kernel⟩
theorem tw_608 : Cond.static yJ1_charAt_3b067 ∈ zWs := zWs_mem (List.mem_of_getElem? (i := 608) (by decide +kernel)) rfl
theorem lsJ0_495 : ZLS "java/lang/String" 495 MJ1_charAt_3b067 2 := ⟨⟨tw_607, tw_608, tw_103, tw_609⟩, zy_J1_charAt_3b067, Nat.le_of_ble_eq_true rfl⟩
theorem tw_610 : Cond.methodLink "java/lang/StringLatin1" 9 yJ0_checkIndex_df160 ∈ zWs := zWs_mem (List.mem_of_getElem? (i := 610) (by decide +kernel)) rfl
set_option maxRecDepth 20000 in
theorem tw_612 : Cond.code yJ0_checkIndex_df160 MJ0_checkIndex_df160.2.1 MJ0_checkIndex_df160.2.2.1 MJ0_checkIndex_df160.2.2.2 ∈ zWs := zWs_mem (List.mem_of_getElem? (i := 612) rfl) rfl
theorem zy_J0_checkIndex_df160 : zYok MJ0_checkIndex_df160 2 := ⟨by decide +kernel, by decide +kernel, by decide +kernel⟩
theorem tw_611 : Cond.static yJ0_checkIndex_df160 ∈ zWs := zWs_mem (List.mem_of_getElem? (i := 611) (by decide +kernel)) rfl
theorem lsJ1_9 : ZLS "java/lang/StringLatin1" 9 MJ0_checkIndex_df160 2 := ⟨⟨tw_610, tw_611, tw_102, tw_612⟩, zy_J0_checkIndex_df160, Nat.le_of_ble_eq_true rfl⟩
theorem tw_613 : Cond.fieldLink "java/lang/String" 1053 "jdk/internal/util/Preconditions" "SIOOBE_FORMATTER" "Ljava/util/function/BiFunction;" ∈ zWs := zWs_mem (List.mem_of_getElem? (i := 613) (by decide +kernel)) rfl
theorem tw_615 : Cond.methodLink "java/lang/String" 1059 yJ3_checkIndex_8e157 ∈ zWs := zWs_mem (List.mem_of_getElem? (i := 615) (by decide +kernel)) rfl
set_option maxRecDepth 20000 in
theorem tw_617 : Cond.code yJ3_checkIndex_8e157 MJ3_checkIndex_8e157.2.1 MJ3_checkIndex_8e157.2.2.1 MJ3_checkIndex_8e157.2.2.2 ∈ zWs := zWs_mem (List.mem_of_getElem? (i := 617) rfl) rfl
theorem tw_104 : Cond.initialized yJ3_checkIndex_8e157.cls ∈ zWs := zWs_mem (List.mem_of_getElem? (i := 104) (by decide +kernel)) rfl
theorem zy_J3_checkIndex_8e157 : zYok MJ3_checkIndex_8e157 3 := ⟨by decide +kernel, by decide +kernel, by decide +kernel⟩
theorem tw_616 : Cond.static yJ3_checkIndex_8e157 ∈ zWs := zWs_mem (List.mem_of_getElem? (i := 616) (by decide +kernel)) rfl
theorem lsJ0_1059 : ZLS "java/lang/String" 1059 MJ3_checkIndex_8e157 3 := ⟨⟨tw_615, tw_616, tw_104, tw_617⟩, zy_J3_checkIndex_8e157, Nat.le_of_ble_eq_true rfl⟩
theorem tw_618 : Cond.methodLink "java/lang/String" 498 yJ2_charAt_3b067 ∈ zWs := zWs_mem (List.mem_of_getElem? (i := 618) (by decide +kernel)) rfl
set_option maxRecDepth 20000 in
theorem tw_620 : Cond.code yJ2_charAt_3b067 MJ2_charAt_3b067.2.1 MJ2_charAt_3b067.2.2.1 MJ2_charAt_3b067.2.2.2 ∈ zWs := zWs_mem (List.mem_of_getElem? (i := 620) rfl) rfl
theorem tw_105 : Cond.initialized yJ2_charAt_3b067.cls ∈ zWs := zWs_mem (List.mem_of_getElem? (i := 105) (by decide +kernel)) rfl
theorem zy_J2_charAt_3b067 : zYok MJ2_charAt_3b067 2 := ⟨by decide +kernel, by decide +kernel, by decide +kernel⟩
theorem tw_619 : Cond.static yJ2_charAt_3b067 ∈ zWs := zWs_mem (List.mem_of_getElem? (i := 619) (by decide +kernel)) rfl
theorem lsJ0_498 : ZLS "java/lang/String" 498 MJ2_charAt_3b067 2 := ⟨⟨tw_618, tw_619, tw_105, tw_620⟩, zy_J2_charAt_3b067, Nat.le_of_ble_eq_true rfl⟩
theorem tw_621 : Cond.methodLink "java/lang/StringUTF16" 67 yJ2_checkIndex_2214a ∈ zWs := zWs_mem (List.mem_of_getElem? (i := 621) (by decide +kernel)) rfl
set_option maxRecDepth 20000 in
theorem tw_623 : Cond.code yJ2_checkIndex_2214a MJ2_checkIndex_2214a.2.1 MJ2_checkIndex_2214a.2.2.1 MJ2_checkIndex_2214a.2.2.2 ∈ zWs := zWs_mem (List.mem_of_getElem? (i := 623) rfl) rfl
theorem zy_J2_checkIndex_2214a : zYok MJ2_checkIndex_2214a 2 := ⟨by decide +kernel, by decide +kernel, by decide +kernel⟩
theorem tw_622 : Cond.static yJ2_checkIndex_2214a ∈ zWs := zWs_mem (List.mem_of_getElem? (i := 622) (by decide +kernel)) rfl
theorem lsJ2_67 : ZLS "java/lang/StringUTF16" 67 MJ2_checkIndex_2214a 2 := ⟨⟨tw_621, tw_622, tw_105, tw_623⟩, zy_J2_checkIndex_2214a, Nat.le_of_ble_eq_true rfl⟩
theorem tw_624 : Cond.methodLink "java/lang/StringUTF16" 48 yJ2_length_9d52b ∈ zWs := zWs_mem (List.mem_of_getElem? (i := 624) (by decide +kernel)) rfl
set_option maxRecDepth 20000 in
theorem tw_626 : Cond.code yJ2_length_9d52b MJ2_length_9d52b.2.1 MJ2_length_9d52b.2.2.1 MJ2_length_9d52b.2.2.2 ∈ zWs := zWs_mem (List.mem_of_getElem? (i := 626) rfl) rfl
theorem zy_J2_length_9d52b : zYok MJ2_length_9d52b 1 := ⟨by decide +kernel, by decide +kernel, by decide +kernel⟩
theorem tw_625 : Cond.static yJ2_length_9d52b ∈ zWs := zWs_mem (List.mem_of_getElem? (i := 625) (by decide +kernel)) rfl
theorem lsJ2_48 : ZLS "java/lang/StringUTF16" 48 MJ2_length_9d52b 1 := ⟨⟨tw_624, tw_625, tw_105, tw_626⟩, zy_J2_length_9d52b, Nat.le_of_ble_eq_true rfl⟩
theorem tw_627 : Cond.methodLink "java/lang/StringUTF16" 414 yJ0_checkIndex_df160 ∈ zWs := zWs_mem (List.mem_of_getElem? (i := 627) (by decide +kernel)) rfl
theorem lsJ2_414 : ZLS "java/lang/StringUTF16" 414 MJ0_checkIndex_df160 2 := ⟨⟨tw_627, tw_611, tw_102, tw_612⟩, zy_J0_checkIndex_df160, Nat.le_of_ble_eq_true rfl⟩
theorem tw_674 : Cond.methodLink "java/util/Arrays" 304 yJ9_min_7cf53 ∈ zWs := zWs_mem (List.mem_of_getElem? (i := 674) (by decide +kernel)) rfl
set_option maxRecDepth 20000 in
theorem tw_676 : Cond.code yJ9_min_7cf53 MJ9_min_7cf53.2.1 MJ9_min_7cf53.2.2.1 MJ9_min_7cf53.2.2.2 ∈ zWs := zWs_mem (List.mem_of_getElem? (i := 676) rfl) rfl
theorem zy_J9_min_7cf53 : zYok MJ9_min_7cf53 2 := ⟨by decide +kernel, by decide +kernel, by decide +kernel⟩
theorem tw_675 : Cond.static yJ9_min_7cf53 ∈ zWs := zWs_mem (List.mem_of_getElem? (i := 675) (by decide +kernel)) rfl
theorem lsJ7_304 : ZLS "java/util/Arrays" 304 MJ9_min_7cf53 2 := ⟨⟨tw_674, tw_675, tw_108, tw_676⟩, zy_J9_min_7cf53, Nat.le_of_ble_eq_true rfl⟩
theorem tw_677 : Cond.methodLink "java/util/Arrays" 150 arraycopyName ∈ zWs := zWs_mem (List.mem_of_getElem? (i := 677) (by decide +kernel)) rfl
theorem tw_736 : Cond.methodLink RL 68 yL_drop ∈ zWs := zWs_mem (List.mem_of_getElem? (i := 736) (by decide +kernel)) rfl
theorem tw_737 : Cond.static yL_drop ∈ zWs := zWs_mem (List.mem_of_getElem? (i := 737) (by decide +kernel)) rfl
set_option maxRecDepth 20000 in
theorem tw_738 : Cond.codeWith yL_drop ML_drop.2.1 ML_drop.2.2.1 ML_drop.2.2.2 (zhh yL_drop) ∈ zWs := zWs_mem (List.mem_of_getElem? (i := 738) rfl) rfl
theorem zy_L_drop : zYok ML_drop 2 := ⟨by decide +kernel, by decide +kernel, by decide +kernel⟩
theorem lsL_68 : ZLSW RL 68 ML_drop 2 := ⟨⟨tw_736, tw_737, tw_86, tw_738⟩, zy_L_drop, Nat.le_of_ble_eq_true rfl⟩
theorem tw_739 : Cond.classLink "StyleDeskLaw" 25 "java/util/NoSuchElementException" ∈ zWs := zWs_mem (List.mem_of_getElem? (i := 739) (by decide +kernel)) rfl
theorem tw_111 : Cond.initialized "java/util/NoSuchElementException" ∈ zWs := zWs_mem (List.mem_of_getElem? (i := 111) (by decide +kernel)) rfl
theorem tw_748 : Cond.classLink "StyleDesk" 146 "java/util/NoSuchElementException" ∈ zWs := zWs_mem (List.mem_of_getElem? (i := 748) (by decide +kernel)) rfl
theorem tw_763 : Cond.methodLink RL 72 yL_matches ∈ zWs := zWs_mem (List.mem_of_getElem? (i := 763) (by decide +kernel)) rfl
theorem tw_764 : Cond.static yL_matches ∈ zWs := zWs_mem (List.mem_of_getElem? (i := 764) (by decide +kernel)) rfl
set_option maxRecDepth 20000 in
theorem tw_765 : Cond.codeWith yL_matches ML_matches.2.1 ML_matches.2.2.1 ML_matches.2.2.2 (zhh yL_matches) ∈ zWs := zWs_mem (List.mem_of_getElem? (i := 765) rfl) rfl
theorem zy_L_matches : zYok ML_matches 3 := ⟨by decide +kernel, by decide +kernel, by decide +kernel⟩
theorem lsL_72 : ZLSW RL 72 ML_matches 3 := ⟨⟨tw_763, tw_764, tw_86, tw_765⟩, zy_L_matches, Nat.le_of_ble_eq_true rfl⟩
theorem tw_803 : Cond.methodLink RL 75 yL_weight ∈ zWs := zWs_mem (List.mem_of_getElem? (i := 803) (by decide +kernel)) rfl
theorem tw_804 : Cond.static yL_weight ∈ zWs := zWs_mem (List.mem_of_getElem? (i := 804) (by decide +kernel)) rfl
set_option maxRecDepth 20000 in
theorem tw_805 : Cond.codeWith yL_weight ML_weight.2.1 ML_weight.2.2.1 ML_weight.2.2.2 (zhh yL_weight) ∈ zWs := zWs_mem (List.mem_of_getElem? (i := 805) rfl) rfl
theorem zy_L_weight : zYok ML_weight 4 := ⟨by decide +kernel, by decide +kernel, by decide +kernel⟩
theorem lsL_75 : ZLSW RL 75 ML_weight 4 := ⟨⟨tw_803, tw_804, tw_86, tw_805⟩, zy_L_weight, Nat.le_of_ble_eq_true rfl⟩
theorem tw_841 : Cond.methodLink RL 79 yL_winner ∈ zWs := zWs_mem (List.mem_of_getElem? (i := 841) (by decide +kernel)) rfl
theorem tw_842 : Cond.static yL_winner ∈ zWs := zWs_mem (List.mem_of_getElem? (i := 842) (by decide +kernel)) rfl
set_option maxRecDepth 20000 in
theorem tw_843 : Cond.codeWith yL_winner ML_winner.2.1 ML_winner.2.2.1 ML_winner.2.2.2 (zhh yL_winner) ∈ zWs := zWs_mem (List.mem_of_getElem? (i := 843) rfl) rfl
theorem zy_L_winner : zYok ML_winner 4 := ⟨by decide +kernel, by decide +kernel, by decide +kernel⟩
theorem lsL_79 : ZLSW RL 79 ML_winner 4 := ⟨⟨tw_841, tw_842, tw_86, tw_843⟩, zy_L_winner, Nat.le_of_ble_eq_true rfl⟩
theorem tw_856 : Cond.methodLink RL 82 yL_value ∈ zWs := zWs_mem (List.mem_of_getElem? (i := 856) (by decide +kernel)) rfl
theorem tw_857 : Cond.static yL_value ∈ zWs := zWs_mem (List.mem_of_getElem? (i := 857) (by decide +kernel)) rfl
set_option maxRecDepth 20000 in
theorem tw_858 : Cond.codeWith yL_value ML_value.2.1 ML_value.2.2.1 ML_value.2.2.2 (zhh yL_value) ∈ zWs := zWs_mem (List.mem_of_getElem? (i := 858) rfl) rfl
theorem zy_L_value : zYok ML_value 4 := ⟨by decide +kernel, by decide +kernel, by decide +kernel⟩
theorem lsL_82 : ZLSW RL 82 ML_value 4 := ⟨⟨tw_856, tw_857, tw_86, tw_858⟩, zy_L_value, Nat.le_of_ble_eq_true rfl⟩
theorem tw_912 : Cond.methodLink RL 86 yL_how ∈ zWs := zWs_mem (List.mem_of_getElem? (i := 912) (by decide +kernel)) rfl
theorem tw_913 : Cond.static yL_how ∈ zWs := zWs_mem (List.mem_of_getElem? (i := 913) (by decide +kernel)) rfl
set_option maxRecDepth 20000 in
theorem tw_914 : Cond.codeWith yL_how ML_how.2.1 ML_how.2.2.1 ML_how.2.2.2 (zhh yL_how) ∈ zWs := zWs_mem (List.mem_of_getElem? (i := 914) rfl) rfl
theorem zy_L_how : zYok ML_how 4 := ⟨by decide +kernel, by decide +kernel, by decide +kernel⟩
theorem lsL_86 : ZLSW RL 86 ML_how 4 := ⟨⟨tw_912, tw_913, tw_86, tw_914⟩, zy_L_how, Nat.le_of_ble_eq_true rfl⟩
theorem tw_1380 : Cond.fieldLink "java/lang/String" 9 "java/lang/String" "value" "[B" ∈ zWs := zWs_mem (List.mem_of_getElem? (i := 1380) (by decide +kernel)) rfl
theorem tw_1381 : Cond.fieldLink "java/lang/String" 15 "java/lang/String" "coder" "B" ∈ zWs := zWs_mem (List.mem_of_getElem? (i := 1381) (by decide +kernel)) rfl
theorem tw_679 : Cond.native arraycopyName ∈ zWs := zWs_mem (List.mem_of_getElem? (i := 679) (by decide +kernel)) rfl
theorem tw_678 : Cond.static arraycopyName ∈ zWs := zWs_mem (List.mem_of_getElem? (i := 678) (by decide +kernel)) rfl
theorem tw_109 : Cond.initialized "java/lang/System" ∈ zWs := zWs_mem (List.mem_of_getElem? (i := 109) (by decide +kernel)) rfl
theorem lxN : ZLX "StyleDesk" "java/util/NoSuchElementException" 146 148 := ⟨⟨tw_748, tw_111⟩, fun w h => zWs_mem ((by decide +kernel : ∀ w ∈ (vx_at0 "StyleDesk" 148 "java/util/NoSuchElementException" zRE).filter goodWord, w ∈ lw_tbl) w h) (List.mem_filter.mp h).2, by decide +kernel, by decide +kernel, by decide +kernel⟩
theorem lxA : ZLX "StyleDesk" "java/lang/IllegalArgumentException" 53 55 := ⟨⟨tw_250, tw_94⟩, fun w h => zWs_mem ((by decide +kernel : ∀ w ∈ (vx_at0 "StyleDesk" 55 "java/lang/IllegalArgumentException" zRE).filter goodWord, w ∈ lw_tbl) w h) (List.mem_filter.mp h).2, by decide +kernel, by decide +kernel, by decide +kernel⟩
theorem lxS : ZLX "StyleDesk" "java/lang/IllegalStateException" 56 58 := ⟨⟨tw_313, tw_95⟩, fun w h => zWs_mem ((by decide +kernel : ∀ w ∈ (vx_at0 "StyleDesk" 58 "java/lang/IllegalStateException" zRE).filter goodWord, w ∈ lw_tbl) w h) (List.mem_filter.mp h).2, by decide +kernel, by decide +kernel, by decide +kernel⟩
theorem dJ0_length_8abf5_0 : decode cJ0_length_8abf5 0 = .ok (.aload_n 0, 1) := by decide +kernel
theorem dJ0_length_8abf5_1 : decode cJ0_length_8abf5 1 = .ok (.getfield 9, 3) := by decide +kernel
theorem dJ0_length_8abf5_4 : decode cJ0_length_8abf5 4 = .ok (.arraylength, 1) := by decide +kernel
theorem dJ0_length_8abf5_5 : decode cJ0_length_8abf5 5 = .ok (.aload_n 0, 1) := by decide +kernel
theorem dJ0_length_8abf5_6 : decode cJ0_length_8abf5 6 = .ok (.invokevirtual 335, 3) := by decide +kernel
theorem dJ0_length_8abf5_9 : decode cJ0_length_8abf5 9 = .ok (.ishr, 1) := by decide +kernel
theorem dJ0_length_8abf5_10 : decode cJ0_length_8abf5 10 = .ok (.ireturn, 1) := by decide +kernel
theorem dJ0_charAt_5068e_0 : decode cJ0_charAt_5068e 0 = .ok (.aload_n 0, 1) := by decide +kernel
theorem dJ0_charAt_5068e_1 : decode cJ0_charAt_5068e 1 = .ok (.invokevirtual 492, 3) := by decide +kernel
theorem dJ0_charAt_5068e_4 : decode cJ0_charAt_5068e 4 = .ok (.ifCond .eq 12, 3) := by decide +kernel
theorem dJ0_charAt_5068e_7 : decode cJ0_charAt_5068e 7 = .ok (.aload_n 0, 1) := by decide +kernel
theorem dJ0_charAt_5068e_8 : decode cJ0_charAt_5068e 8 = .ok (.getfield 9, 3) := by decide +kernel
theorem dJ0_charAt_5068e_11 : decode cJ0_charAt_5068e 11 = .ok (.iload_n 1, 1) := by decide +kernel
theorem dJ0_charAt_5068e_12 : decode cJ0_charAt_5068e 12 = .ok (.invokestatic 495, 3) := by decide +kernel
theorem dJ0_charAt_5068e_15 : decode cJ0_charAt_5068e 15 = .ok (.ireturn, 1) := by decide +kernel
theorem dJ0_charAt_5068e_16 : decode cJ0_charAt_5068e 16 = .ok (.aload_n 0, 1) := by decide +kernel
theorem dJ0_charAt_5068e_17 : decode cJ0_charAt_5068e 17 = .ok (.getfield 9, 3) := by decide +kernel
theorem dJ0_charAt_5068e_20 : decode cJ0_charAt_5068e 20 = .ok (.iload_n 1, 1) := by decide +kernel
theorem dJ0_charAt_5068e_21 : decode cJ0_charAt_5068e 21 = .ok (.invokestatic 498, 3) := by decide +kernel
theorem dJ0_charAt_5068e_24 : decode cJ0_charAt_5068e 24 = .ok (.ireturn, 1) := by decide +kernel
theorem dJ0_coder_7d493_0 : decode cJ0_coder_7d493 0 = .ok (.getstatic 38, 3) := by decide +kernel
theorem dJ0_coder_7d493_3 : decode cJ0_coder_7d493 3 = .ok (.ifCond .eq 10, 3) := by decide +kernel
theorem dJ0_coder_7d493_6 : decode cJ0_coder_7d493 6 = .ok (.aload_n 0, 1) := by decide +kernel
theorem dJ0_coder_7d493_7 : decode cJ0_coder_7d493 7 = .ok (.getfield 15, 3) := by decide +kernel
theorem dJ0_coder_7d493_10 : decode cJ0_coder_7d493 10 = .ok (.goto 4, 3) := by decide +kernel
theorem dJ0_coder_7d493_13 : decode cJ0_coder_7d493 13 = .ok (.iconst 1, 1) := by decide +kernel
theorem dJ0_coder_7d493_14 : decode cJ0_coder_7d493 14 = .ok (.ireturn, 1) := by decide +kernel
theorem dJ0_isLatin1_aae02_0 : decode cJ0_isLatin1_aae02 0 = .ok (.getstatic 38, 3) := by decide +kernel
theorem dJ0_isLatin1_aae02_3 : decode cJ0_isLatin1_aae02 3 = .ok (.ifCond .eq 14, 3) := by decide +kernel
theorem dJ0_isLatin1_aae02_6 : decode cJ0_isLatin1_aae02 6 = .ok (.aload_n 0, 1) := by decide +kernel
theorem dJ0_isLatin1_aae02_7 : decode cJ0_isLatin1_aae02 7 = .ok (.getfield 15, 3) := by decide +kernel
theorem dJ0_isLatin1_aae02_10 : decode cJ0_isLatin1_aae02 10 = .ok (.ifCond .ne 7, 3) := by decide +kernel
theorem dJ0_isLatin1_aae02_13 : decode cJ0_isLatin1_aae02 13 = .ok (.iconst 1, 1) := by decide +kernel
theorem dJ0_isLatin1_aae02_14 : decode cJ0_isLatin1_aae02 14 = .ok (.goto 4, 3) := by decide +kernel
theorem dJ0_isLatin1_aae02_17 : decode cJ0_isLatin1_aae02 17 = .ok (.iconst 0, 1) := by decide +kernel
theorem dJ0_isLatin1_aae02_18 : decode cJ0_isLatin1_aae02 18 = .ok (.ireturn, 1) := by decide +kernel
theorem dJ0_checkIndex_df160_0 : decode cJ0_checkIndex_df160 0 = .ok (.iload_n 0, 1) := by decide +kernel
theorem dJ0_checkIndex_df160_1 : decode cJ0_checkIndex_df160 1 = .ok (.iload_n 1, 1) := by decide +kernel
theorem dJ0_checkIndex_df160_2 : decode cJ0_checkIndex_df160 2 = .ok (.getstatic 1053, 3) := by decide +kernel
theorem dJ0_checkIndex_df160_5 : decode cJ0_checkIndex_df160 5 = .ok (.invokestatic 1059, 3) := by decide +kernel
theorem dJ0_checkIndex_df160_8 : decode cJ0_checkIndex_df160 8 = .ok (.pop, 1) := by decide +kernel
theorem dJ0_checkIndex_df160_9 : decode cJ0_checkIndex_df160 9 = .ok (.return_, 1) := by decide +kernel
theorem dJ1_charAt_3b067_0 : decode cJ1_charAt_3b067 0 = .ok (.iload_n 1, 1) := by decide +kernel
theorem dJ1_charAt_3b067_1 : decode cJ1_charAt_3b067 1 = .ok (.aload_n 0, 1) := by decide +kernel
theorem dJ1_charAt_3b067_2 : decode cJ1_charAt_3b067 2 = .ok (.arraylength, 1) := by decide +kernel
theorem dJ1_charAt_3b067_3 : decode cJ1_charAt_3b067 3 = .ok (.invokestatic 9, 3) := by decide +kernel
theorem dJ1_charAt_3b067_6 : decode cJ1_charAt_3b067 6 = .ok (.aload_n 0, 1) := by decide +kernel
theorem dJ1_charAt_3b067_7 : decode cJ1_charAt_3b067 7 = .ok (.iload_n 1, 1) := by decide +kernel
theorem dJ1_charAt_3b067_8 : decode cJ1_charAt_3b067 8 = .ok (.baload, 1) := by decide +kernel
theorem dJ1_charAt_3b067_9 : decode cJ1_charAt_3b067 9 = .ok (.sipush 255, 3) := by decide +kernel
theorem dJ1_charAt_3b067_12 : decode cJ1_charAt_3b067 12 = .ok (.iand, 1) := by decide +kernel
theorem dJ1_charAt_3b067_13 : decode cJ1_charAt_3b067 13 = .ok (.i2c, 1) := by decide +kernel
theorem dJ1_charAt_3b067_14 : decode cJ1_charAt_3b067 14 = .ok (.ireturn, 1) := by decide +kernel
theorem dJ3_checkIndex_8e157_0 : decode cJ3_checkIndex_8e157 0 = .ok (.iload_n 0, 1) := by decide +kernel
theorem dJ3_checkIndex_8e157_1 : decode cJ3_checkIndex_8e157 1 = .ok (.ifCond .lt 8, 3) := by decide +kernel
theorem dJ3_checkIndex_8e157_4 : decode cJ3_checkIndex_8e157 4 = .ok (.iload_n 0, 1) := by decide +kernel
theorem dJ3_checkIndex_8e157_5 : decode cJ3_checkIndex_8e157 5 = .ok (.iload_n 1, 1) := by decide +kernel
theorem dJ3_checkIndex_8e157_6 : decode cJ3_checkIndex_8e157 6 = .ok (.if_icmp .lt 10, 3) := by decide +kernel
theorem dJ3_checkIndex_8e157_9 : decode cJ3_checkIndex_8e157 9 = .ok (.aload_n 2, 1) := by decide +kernel
theorem dJ3_checkIndex_8e157_10 : decode cJ3_checkIndex_8e157 10 = .ok (.iload_n 0, 1) := by decide +kernel
theorem dJ3_checkIndex_8e157_11 : decode cJ3_checkIndex_8e157 11 = .ok (.iload_n 1, 1) := by decide +kernel
theorem dJ3_checkIndex_8e157_12 : decode cJ3_checkIndex_8e157 12 = .ok (.invokestatic 95, 3) := by decide +kernel
theorem dJ3_checkIndex_8e157_15 : decode cJ3_checkIndex_8e157 15 = .ok (.athrow, 1) := by decide +kernel
theorem dJ3_checkIndex_8e157_16 : decode cJ3_checkIndex_8e157 16 = .ok (.iload_n 0, 1) := by decide +kernel
theorem dJ3_checkIndex_8e157_17 : decode cJ3_checkIndex_8e157 17 = .ok (.ireturn, 1) := by decide +kernel

def gtbl : List Cond := lw_tbl.filter goodWord
theorem gm_t {w : Cond} (h : w ∈ tables_1) (hg : goodWord w = true) : w ∈ gtbl := List.mem_filter.mpr ⟨List.mem_append_right _ h, hg⟩
theorem gm_0 {w : Cond} (h : w ∈ k2_sels lw_privs) (hg : goodWord w = true) : w ∈ gtbl := List.mem_filter.mpr ⟨List.mem_append_left _ h, hg⟩
theorem gtbl_good : ∀ w ∈ gtbl, (w.onTables && w.keeps) = true ∨ ∃ ty, w = .arrayClass ty := fun w h => good_of_word (List.mem_filter.mp h).2
theorem gtbl_in : ∀ w ∈ gtbl, w ∈ lw_tbl := fun w h => (List.mem_filter.mp h).1
theorem gi_1 {w : Cond} (h : w ∈ tables_1_1) : w ∈ tables_1 := List.mem_append_left _ (h)
theorem gi_2 {w : Cond} (h : w ∈ tables_1_2) : w ∈ tables_1 := List.mem_append_right _ (List.mem_append_left _ (h))
theorem gi_3 {w : Cond} (h : w ∈ tables_1_3) : w ∈ tables_1 := List.mem_append_right _ (List.mem_append_right _ (List.mem_append_left _ (h)))
theorem gi_4 {w : Cond} (h : w ∈ tables_1_4) : w ∈ tables_1 := List.mem_append_right _ (List.mem_append_right _ (List.mem_append_right _ (List.mem_append_left _ (h))))
theorem gi_5 {w : Cond} (h : w ∈ tables_1_5) : w ∈ tables_1 := List.mem_append_right _ (List.mem_append_right _ (List.mem_append_right _ (List.mem_append_right _ (List.mem_append_left _ (h)))))
theorem gi_6 {w : Cond} (h : w ∈ tables_1_6) : w ∈ tables_1 := List.mem_append_right _ (List.mem_append_right _ (List.mem_append_right _ (List.mem_append_right _ (List.mem_append_right _ (List.mem_append_left _ (h))))))
theorem gi_7 {w : Cond} (h : w ∈ tables_1_7) : w ∈ tables_1 := List.mem_append_right _ (List.mem_append_right _ (List.mem_append_right _ (List.mem_append_right _ (List.mem_append_right _ (List.mem_append_right _ (List.mem_append_left _ (h)))))))
theorem gi_8 {w : Cond} (h : w ∈ tables_1_8) : w ∈ tables_1 := List.mem_append_right _ (List.mem_append_right _ (List.mem_append_right _ (List.mem_append_right _ (List.mem_append_right _ (List.mem_append_right _ (List.mem_append_right _ (h)))))))
theorem tw_0 : (Cond.selects "ToffeeTown$Text" yX8_scanOne yX8_scanOne) ∈ gtbl := gm_0 (List.mem_of_getElem? (i := 0) (by decide +kernel)) rfl
theorem tw_1 : (Cond.selects "ToffeeTown$Text" yX8_behindRun yX8_behindRun) ∈ gtbl := gm_0 (List.mem_of_getElem? (i := 1) (by decide +kernel)) rfl
theorem tw_2 : (Cond.selects "ToffeeTown$Text" yX8_numberFrom yX8_numberFrom) ∈ gtbl := gm_0 (List.mem_of_getElem? (i := 2) (by decide +kernel)) rfl
theorem tw_3 : (Cond.selects "ToffeeTown$Text" yX8_add yX8_add) ∈ gtbl := gm_0 (List.mem_of_getElem? (i := 3) (by decide +kernel)) rfl
theorem tw_4 : (Cond.selects "ToffeeTown$Text" yX8_wordFrom yX8_wordFrom) ∈ gtbl := gm_0 (List.mem_of_getElem? (i := 4) (by decide +kernel)) rfl
theorem tw_5 : (Cond.selects "ToffeeTown$Text" yX8_isWord yX8_isWord) ∈ gtbl := gm_0 (List.mem_of_getElem? (i := 5) (by decide +kernel)) rfl
theorem tw_6 : (Cond.selects "ToffeeTown$Text" yX8_signAt yX8_signAt) ∈ gtbl := gm_0 (List.mem_of_getElem? (i := 6) (by decide +kernel)) rfl
theorem tw_7 : (Cond.selects "ToffeeTown$TownReader" yX10_readClause yX10_readClause) ∈ gtbl := gm_0 (List.mem_of_getElem? (i := 7) (by decide +kernel)) rfl
theorem tw_8 : (Cond.selects "ToffeeTown$TownReader" yX10_isFull yX10_isFull) ∈ gtbl := gm_0 (List.mem_of_getElem? (i := 8) (by decide +kernel)) rfl
theorem tw_9 : (Cond.selects "ToffeeTown$TownReader" yX10_readHill yX10_readHill) ∈ gtbl := gm_0 (List.mem_of_getElem? (i := 9) (by decide +kernel)) rfl
theorem tw_10 : (Cond.selects "ToffeeTown$TownReader" yX10_readNumber yX10_readNumber) ∈ gtbl := gm_0 (List.mem_of_getElem? (i := 10) (by decide +kernel)) rfl
theorem tw_11 : (Cond.selects "ToffeeTown$TownReader" yX10_readHeat yX10_readHeat) ∈ gtbl := gm_0 (List.mem_of_getElem? (i := 11) (by decide +kernel)) rfl
theorem tw_12 : (Cond.selects "ToffeeTown$TownReader" yX10_readHouse yX10_readHouse) ∈ gtbl := gm_0 (List.mem_of_getElem? (i := 12) (by decide +kernel)) rfl
theorem tw_13 : (Cond.selects "ToffeeTown$TownReader" yX10_readJoin yX10_readJoin) ∈ gtbl := gm_0 (List.mem_of_getElem? (i := 13) (by decide +kernel)) rfl
theorem tw_14 : (Cond.selects "ToffeeTown$TownReader" yX10_readRock yX10_readRock) ∈ gtbl := gm_0 (List.mem_of_getElem? (i := 14) (by decide +kernel)) rfl
theorem tw_15 : (Cond.selects "ToffeeTown$RuleReader" yX5_readClause yX5_readClause) ∈ gtbl := gm_0 (List.mem_of_getElem? (i := 15) (by decide +kernel)) rfl
theorem tw_16 : (Cond.selects "ToffeeTown$RuleReader" yX5_readSum yX5_readSum) ∈ gtbl := gm_0 (List.mem_of_getElem? (i := 16) (by decide +kernel)) rfl
theorem tw_17 : (Cond.selects "ToffeeTown$RuleReader" yX5_readValue yX5_readValue) ∈ gtbl := gm_0 (List.mem_of_getElem? (i := 17) (by decide +kernel)) rfl
theorem tw_18 : (Cond.selects "ToffeeTown$RuleReader" yX5_write yX5_write) ∈ gtbl := gm_0 (List.mem_of_getElem? (i := 18) (by decide +kernel)) rfl
theorem tw_19 : (Cond.selects "ToffeeTown$RuleReader" yX5_readTest yX5_readTest) ∈ gtbl := gm_0 (List.mem_of_getElem? (i := 19) (by decide +kernel)) rfl
theorem tw_20 : (Cond.selects "ToffeeTown$RuleReader" yX5_readFact yX5_readFact) ∈ gtbl := gm_0 (List.mem_of_getElem? (i := 20) (by decide +kernel)) rfl
theorem tw_21 : (Cond.selects "ToffeeTown" yX11_isHouse yX11_isHouse) ∈ gtbl := gm_0 (List.mem_of_getElem? (i := 21) (by decide +kernel)) rfl
theorem tw_22 : (Cond.selects "ToffeeTown" yX11_blockNow yX11_blockNow) ∈ gtbl := gm_0 (List.mem_of_getElem? (i := 22) (by decide +kernel)) rfl
theorem tw_23 : (Cond.selects "ToffeeTown" yX11_isFastNow yX11_isFastNow) ∈ gtbl := gm_0 (List.mem_of_getElem? (i := 23) (by decide +kernel)) rfl
theorem tw_24 : (Cond.selects "ToffeeTown" yX11_areTwo yX11_areTwo) ∈ gtbl := gm_0 (List.mem_of_getElem? (i := 24) (by decide +kernel)) rfl
theorem tw_25 : (Cond.selects "ToffeeTown" yX11_isTold yX11_isTold) ∈ gtbl := gm_0 (List.mem_of_getElem? (i := 25) (by decide +kernel)) rfl
theorem tw_26 : (Cond.selects "ToffeeTown$Scene" yX6_forgetFirst yX6_forgetFirst) ∈ gtbl := gm_0 (List.mem_of_getElem? (i := 26) (by decide +kernel)) rfl
theorem tw_27 : (Cond.selects "ToffeeTown$Scene" yX6_pastAt yX6_pastAt) ∈ gtbl := gm_0 (List.mem_of_getElem? (i := 27) (by decide +kernel)) rfl
theorem tw_28 : (Cond.selects "ToffeeTown" yX11_ruleInForce yX11_ruleInForce) ∈ gtbl := gm_0 (List.mem_of_getElem? (i := 28) (by decide +kernel)) rfl
theorem tw_29 : (Cond.selects "ToffeeTown$Days" yX1_hardenBy yX1_hardenBy) ∈ gtbl := gm_0 (List.mem_of_getElem? (i := 29) (by decide +kernel)) rfl
theorem tw_30 : (Cond.selects "ToffeeTown$Days" yX1_fillWords yX1_fillWords) ∈ gtbl := gm_0 (List.mem_of_getElem? (i := 30) (by decide +kernel)) rfl
theorem tw_31 : (Cond.selects "ToffeeTown$Days" yX1_runDown yX1_runDown) ∈ gtbl := gm_0 (List.mem_of_getElem? (i := 31) (by decide +kernel)) rfl
theorem tw_32 : (Cond.selects "ToffeeTown$Days" yX1_lower yX1_lower) ∈ gtbl := gm_0 (List.mem_of_getElem? (i := 32) (by decide +kernel)) rfl
theorem tw_33 : (Cond.selects "ToffeeTown$Days" yX1_stickTogether yX1_stickTogether) ∈ gtbl := gm_0 (List.mem_of_getElem? (i := 33) (by decide +kernel)) rfl
theorem tw_34 : (Cond.selects "ToffeeTown" yX11_canPour yX11_canPour) ∈ gtbl := gm_0 (List.mem_of_getElem? (i := 34) (by decide +kernel)) rfl
theorem tw_35 : (Cond.selects "ToffeeTown" yX11_findComesDown yX11_findComesDown) ∈ gtbl := gm_0 (List.mem_of_getElem? (i := 35) (by decide +kernel)) rfl
theorem tw_36 : (Cond.selects "ToffeeTown" yX11_poursAcross yX11_poursAcross) ∈ gtbl := gm_0 (List.mem_of_getElem? (i := 36) (by decide +kernel)) rfl
theorem tw_37 : (Cond.selects "ToffeeTown$Rows" yX3_search yX3_search) ∈ gtbl := gm_0 (List.mem_of_getElem? (i := 37) (by decide +kernel)) rfl
theorem tw_38 : (Cond.selects "ToffeeTown$Rows" yX3_keepIfBetter yX3_keepIfBetter) ∈ gtbl := gm_0 (List.mem_of_getElem? (i := 38) (by decide +kernel)) rfl
theorem tw_39 : (Cond.selects "ToffeeTown$Rows" yX3_goOn yX3_goOn) ∈ gtbl := gm_0 (List.mem_of_getElem? (i := 39) (by decide +kernel)) rfl
theorem tw_40 : (Cond.selects "ToffeeTown$Rests" yX2_isRest yX2_isRest) ∈ gtbl := gm_0 (List.mem_of_getElem? (i := 40) (by decide +kernel)) rfl
theorem tw_41 : (Cond.selects "ToffeeTown$Candidates" yX0_isSo yX0_isSo) ∈ gtbl := gm_0 (List.mem_of_getElem? (i := 41) (by decide +kernel)) rfl
theorem tw_42 : (Cond.selects "ToffeeTown" yX11_passSummer yX11_passSummer) ∈ gtbl := gm_0 (List.mem_of_getElem? (i := 42) (by decide +kernel)) rfl
theorem tw_43 : (Cond.selects "ToffeeTown" yX11_countTold yX11_countTold) ∈ gtbl := gm_0 (List.mem_of_getElem? (i := 43) (by decide +kernel)) rfl
theorem tw_44 : (Cond.selects "ToffeeTown" yX11_countNow yX11_countNow) ∈ gtbl := gm_0 (List.mem_of_getElem? (i := 44) (by decide +kernel)) rfl
theorem tw_45 : (Cond.selects "ToffeeTownModel" yX12_put yX12_put) ∈ gtbl := gm_0 (List.mem_of_getElem? (i := 45) (by decide +kernel)) rfl
theorem tw_46 : (Cond.selects "ToffeeTownModel" yX12_readsAll yX12_readsAll) ∈ gtbl := gm_0 (List.mem_of_getElem? (i := 46) (by decide +kernel)) rfl
theorem tw_47 : (Cond.selects "ToffeeTownModel" yX12_starts yX12_starts) ∈ gtbl := gm_0 (List.mem_of_getElem? (i := 47) (by decide +kernel)) rfl
theorem tw_48 : (Cond.selects "ToffeeTownModel" yX12_townClause yX12_townClause) ∈ gtbl := gm_0 (List.mem_of_getElem? (i := 48) (by decide +kernel)) rfl
theorem tw_49 : (Cond.selects "ToffeeTownModel" yX12_blanks yX12_blanks) ∈ gtbl := gm_0 (List.mem_of_getElem? (i := 49) (by decide +kernel)) rfl
theorem tw_50 : (Cond.selects "ToffeeTownModel" yX12_sign yX12_sign) ∈ gtbl := gm_0 (List.mem_of_getElem? (i := 50) (by decide +kernel)) rfl
theorem tw_51 : (Cond.selects "ToffeeTownModel" yX12_isWordAt yX12_isWordAt) ∈ gtbl := gm_0 (List.mem_of_getElem? (i := 51) (by decide +kernel)) rfl
theorem tw_52 : (Cond.selects "ToffeeTownModel" yX12_fails yX12_fails) ∈ gtbl := gm_0 (List.mem_of_getElem? (i := 52) (by decide +kernel)) rfl
theorem tw_53 : (Cond.selects "ToffeeTownModel" yX12_isFull yX12_isFull) ∈ gtbl := gm_0 (List.mem_of_getElem? (i := 53) (by decide +kernel)) rfl
theorem tw_54 : (Cond.selects "ToffeeTownModel" yX12_townPart yX12_townPart) ∈ gtbl := gm_0 (List.mem_of_getElem? (i := 54) (by decide +kernel)) rfl
theorem tw_55 : (Cond.selects "ToffeeTownModel" yX12_amount yX12_amount) ∈ gtbl := gm_0 (List.mem_of_getElem? (i := 55) (by decide +kernel)) rfl
theorem tw_56 : (Cond.selects "ToffeeTownModel" yX12_digits yX12_digits) ∈ gtbl := gm_0 (List.mem_of_getElem? (i := 56) (by decide +kernel)) rfl
theorem tw_57 : (Cond.selects "ToffeeTownModel" yX12_isDigit yX12_isDigit) ∈ gtbl := gm_0 (List.mem_of_getElem? (i := 57) (by decide +kernel)) rfl
theorem tw_58 : (Cond.selects "ToffeeTownModel" yX12_joinPart yX12_joinPart) ∈ gtbl := gm_0 (List.mem_of_getElem? (i := 58) (by decide +kernel)) rfl
theorem tw_59 : (Cond.selects "ToffeeTownModel" yX12_goesOn yX12_goesOn) ∈ gtbl := gm_0 (List.mem_of_getElem? (i := 59) (by decide +kernel)) rfl
theorem tw_60 : (Cond.selects "ToffeeTownModel" yX12_begins yX12_begins) ∈ gtbl := gm_0 (List.mem_of_getElem? (i := 60) (by decide +kernel)) rfl
theorem tw_61 : (Cond.selects "ToffeeTownModel" yX12_ruleClause yX12_ruleClause) ∈ gtbl := gm_0 (List.mem_of_getElem? (i := 61) (by decide +kernel)) rfl
theorem tw_62 : (Cond.selects "ToffeeTownModel" yX12_sum yX12_sum) ∈ gtbl := gm_0 (List.mem_of_getElem? (i := 62) (by decide +kernel)) rfl
theorem tw_63 : (Cond.selects "ToffeeTownModel" yX12_term yX12_term) ∈ gtbl := gm_0 (List.mem_of_getElem? (i := 63) (by decide +kernel)) rfl
theorem tw_64 : (Cond.selects "ToffeeTownModel" yX12_value yX12_value) ∈ gtbl := gm_0 (List.mem_of_getElem? (i := 64) (by decide +kernel)) rfl
theorem tw_65 : (Cond.selects "ToffeeTownModel" yX12_isCounted yX12_isCounted) ∈ gtbl := gm_0 (List.mem_of_getElem? (i := 65) (by decide +kernel)) rfl
theorem tw_66 : (Cond.selects "ToffeeTownModel" yX12_entry yX12_entry) ∈ gtbl := gm_0 (List.mem_of_getElem? (i := 66) (by decide +kernel)) rfl
theorem tw_67 : (Cond.selects "ToffeeTownModel" yX12_takes yX12_takes) ∈ gtbl := gm_0 (List.mem_of_getElem? (i := 67) (by decide +kernel)) rfl
theorem tw_68 : (Cond.selects "ToffeeTownModel" yX12_test yX12_test) ∈ gtbl := gm_0 (List.mem_of_getElem? (i := 68) (by decide +kernel)) rfl
theorem tw_69 : (Cond.selects "ToffeeTownModel" yX12_fact yX12_fact) ∈ gtbl := gm_0 (List.mem_of_getElem? (i := 69) (by decide +kernel)) rfl
theorem tw_70 : (Cond.selects "ToffeeTownModel" yX12_opens yX12_opens) ∈ gtbl := gm_0 (List.mem_of_getElem? (i := 70) (by decide +kernel)) rfl
theorem tw_71 : (Cond.selects "ToffeeTownModel" yX12_compared yX12_compared) ∈ gtbl := gm_0 (List.mem_of_getElem? (i := 71) (by decide +kernel)) rfl
theorem tw_72 : (Cond.selects "ToffeeTownModel" yX12_answers yX12_answers) ∈ gtbl := gm_0 (List.mem_of_getElem? (i := 72) (by decide +kernel)) rfl
theorem tw_73 : (Cond.selects "ToffeeTownModel" yX12_top yX12_top) ∈ gtbl := gm_0 (List.mem_of_getElem? (i := 73) (by decide +kernel)) rfl
theorem tw_74 : (Cond.selects "ToffeeTownModel" yX12_isHouse yX12_isHouse) ∈ gtbl := gm_0 (List.mem_of_getElem? (i := 74) (by decide +kernel)) rfl
theorem tw_75 : (Cond.selects "ToffeeTownModel" yX12_joinedTo yX12_joinedTo) ∈ gtbl := gm_0 (List.mem_of_getElem? (i := 75) (by decide +kernel)) rfl
theorem tw_76 : (Cond.selects "ToffeeTownModel" yX12_heat yX12_heat) ∈ gtbl := gm_0 (List.mem_of_getElem? (i := 76) (by decide +kernel)) rfl
theorem tw_77 : (Cond.selects "ToffeeTownModel" yX12_toldHeat yX12_toldHeat) ∈ gtbl := gm_0 (List.mem_of_getElem? (i := 77) (by decide +kernel)) rfl
theorem tw_78 : (Cond.selects "ToffeeTownModel" yX12_blockOf yX12_blockOf) ∈ gtbl := gm_0 (List.mem_of_getElem? (i := 78) (by decide +kernel)) rfl
theorem tw_79 : (Cond.selects "ToffeeTownModel" yX12_isFast yX12_isFast) ∈ gtbl := gm_0 (List.mem_of_getElem? (i := 79) (by decide +kernel)) rfl
theorem tw_80 : (Cond.selects "ToffeeTownModel" yX12_areTwo yX12_areTwo) ∈ gtbl := gm_0 (List.mem_of_getElem? (i := 80) (by decide +kernel)) rfl
theorem tw_81 : (Cond.selects "ToffeeTownModel" yX12_movesAll yX12_movesAll) ∈ gtbl := gm_0 (List.mem_of_getElem? (i := 81) (by decide +kernel)) rfl
theorem tw_82 : (Cond.selects "ToffeeTownModel" yX12_moves yX12_moves) ∈ gtbl := gm_0 (List.mem_of_getElem? (i := 82) (by decide +kernel)) rfl
theorem tw_83 : (Cond.selects "ToffeeTownModel" yX12_movesRow yX12_movesRow) ∈ gtbl := gm_0 (List.mem_of_getElem? (i := 83) (by decide +kernel)) rfl
theorem tw_84 : (Cond.selects "ToffeeTownModel" yX12_isTown yX12_isTown) ∈ gtbl := gm_0 (List.mem_of_getElem? (i := 84) (by decide +kernel)) rfl
theorem tw_85 : (Cond.selects "ToffeeTownModel" yX12_keepsAct yX12_keepsAct) ∈ gtbl := gm_0 (List.mem_of_getElem? (i := 85) (by decide +kernel)) rfl
theorem tw_86 : (Cond.selects "ToffeeTownModel" yX12_goes yX12_goes) ∈ gtbl := gm_0 (List.mem_of_getElem? (i := 86) (by decide +kernel)) rfl
theorem tw_87 : (Cond.selects "ToffeeTownModel" yX12_choice yX12_choice) ∈ gtbl := gm_0 (List.mem_of_getElem? (i := 87) (by decide +kernel)) rfl
theorem tw_88 : (Cond.selects "ToffeeTownModel" yX12_canHarden yX12_canHarden) ∈ gtbl := gm_0 (List.mem_of_getElem? (i := 88) (by decide +kernel)) rfl
theorem tw_89 : (Cond.selects "ToffeeTownModel" yX12_sumOf yX12_sumOf) ∈ gtbl := gm_0 (List.mem_of_getElem? (i := 89) (by decide +kernel)) rfl
theorem tw_90 : (Cond.selects "ToffeeTownModel" yX12_wanted yX12_wanted) ∈ gtbl := gm_0 (List.mem_of_getElem? (i := 90) (by decide +kernel)) rfl
theorem tw_91 : (Cond.selects "ToffeeTownModel" yX12_answer yX12_answer) ∈ gtbl := gm_0 (List.mem_of_getElem? (i := 91) (by decide +kernel)) rfl
theorem tw_92 : (Cond.selects "ToffeeTownModel" yX12_joins yX12_joins) ∈ gtbl := gm_0 (List.mem_of_getElem? (i := 92) (by decide +kernel)) rfl
theorem tw_93 : (Cond.selects "ToffeeTownModel" yX12_laysSinks yX12_laysSinks) ∈ gtbl := gm_0 (List.mem_of_getElem? (i := 93) (by decide +kernel)) rfl
theorem tw_94 : (Cond.selects "ToffeeTownModel" yX12_isInRiver yX12_isInRiver) ∈ gtbl := gm_0 (List.mem_of_getElem? (i := 94) (by decide +kernel)) rfl
theorem tw_95 : (Cond.selects "ToffeeTownModel" yX12_floods yX12_floods) ∈ gtbl := gm_0 (List.mem_of_getElem? (i := 95) (by decide +kernel)) rfl
theorem tw_96 : (Cond.selects "ToffeeTownModel" yX12_canPour yX12_canPour) ∈ gtbl := gm_0 (List.mem_of_getElem? (i := 96) (by decide +kernel)) rfl
theorem tw_97 : (Cond.selects "ToffeeTownModel" yX12_keepsAll yX12_keepsAll) ∈ gtbl := gm_0 (List.mem_of_getElem? (i := 97) (by decide +kernel)) rfl
theorem tw_98 : (Cond.selects "ToffeeTownModel" yX12_carriesAll yX12_carriesAll) ∈ gtbl := gm_0 (List.mem_of_getElem? (i := 98) (by decide +kernel)) rfl
theorem tw_99 : (Cond.selects "ToffeeTownModel" yX12_carryRow yX12_carryRow) ∈ gtbl := gm_0 (List.mem_of_getElem? (i := 99) (by decide +kernel)) rfl
theorem tw_100 : (Cond.selects "ToffeeTownModel" yX12_goFor yX12_goFor) ∈ gtbl := gm_0 (List.mem_of_getElem? (i := 100) (by decide +kernel)) rfl
theorem tw_101 : (Cond.selects "ToffeeTownModel" yX12_inRiver yX12_inRiver) ∈ gtbl := gm_0 (List.mem_of_getElem? (i := 101) (by decide +kernel)) rfl
theorem tw_102 : (Cond.selects "ToffeeTownModel" yX12_laysBack yX12_laysBack) ∈ gtbl := gm_0 (List.mem_of_getElem? (i := 102) (by decide +kernel)) rfl
theorem tw_103 : (Cond.selects "ToffeeTownModel" yX12_laysDown yX12_laysDown) ∈ gtbl := gm_0 (List.mem_of_getElem? (i := 103) (by decide +kernel)) rfl
theorem tw_104 : (Cond.selects "ToffeeTownModel" yX12_leadsOut yX12_leadsOut) ∈ gtbl := gm_0 (List.mem_of_getElem? (i := 104) (by decide +kernel)) rfl
theorem tw_105 : (Cond.selects "ToffeeTownModel" yX12_placeIn yX12_placeIn) ∈ gtbl := gm_0 (List.mem_of_getElem? (i := 105) (by decide +kernel)) rfl
theorem tw_106 : (Cond.selects "ToffeeTownModel" yX12_laysTwos yX12_laysTwos) ∈ gtbl := gm_0 (List.mem_of_getElem? (i := 106) (by decide +kernel)) rfl
theorem tw_107 : (Cond.selects "ToffeeTownModel" yX12_placesByRow yX12_placesByRow) ∈ gtbl := gm_0 (List.mem_of_getElem? (i := 107) (by decide +kernel)) rfl
theorem tw_108 : (Cond.selects "ToffeeTownModel" yX12_allPlaces yX12_allPlaces) ∈ gtbl := gm_0 (List.mem_of_getElem? (i := 108) (by decide +kernel)) rfl
theorem tw_109 : (Cond.selects "ToffeeTownModel" yX12_laysRocks yX12_laysRocks) ∈ gtbl := gm_0 (List.mem_of_getElem? (i := 109) (by decide +kernel)) rfl
theorem tw_110 : (Cond.selects "ToffeeTownModel" yX12_isRest yX12_isRest) ∈ gtbl := gm_0 (List.mem_of_getElem? (i := 110) (by decide +kernel)) rfl
theorem tw_111 : (Cond.selects "ToffeeTownModel" yX12_allHard yX12_allHard) ∈ gtbl := gm_0 (List.mem_of_getElem? (i := 111) (by decide +kernel)) rfl
theorem tw_112 : (Cond.selects "ToffeeTownModel" yX12_couldRule yX12_couldRule) ∈ gtbl := gm_0 (List.mem_of_getElem? (i := 112) (by decide +kernel)) rfl
theorem tw_113 : (Cond.selects "ToffeeTownModel" yX12_mostAlike yX12_mostAlike) ∈ gtbl := gm_0 (List.mem_of_getElem? (i := 113) (by decide +kernel)) rfl
theorem tw_114 : (Cond.selects "ToffeeTownModel" yX12_draws yX12_draws) ∈ gtbl := gm_0 (List.mem_of_getElem? (i := 114) (by decide +kernel)) rfl
theorem tw_115 : (Cond.initialized "ToffeeTownLaw") ∈ gtbl := gm_t (gi_1 (List.mem_of_getElem? (i := 0) (by decide +kernel))) rfl
theorem tw_116 : (Cond.initialized "ToffeeTown") ∈ gtbl := gm_t (gi_1 (List.mem_of_getElem? (i := 1) (by decide +kernel))) rfl
theorem tw_117 : (Cond.initialized "ToffeeTown$Text") ∈ gtbl := gm_t (gi_1 (List.mem_of_getElem? (i := 2) (by decide +kernel))) rfl
theorem tw_118 : (Cond.initialized "ToffeeTown$TownReader") ∈ gtbl := gm_t (gi_1 (List.mem_of_getElem? (i := 3) (by decide +kernel))) rfl
theorem tw_119 : (Cond.initialized "ToffeeTown$Town") ∈ gtbl := gm_t (gi_1 (List.mem_of_getElem? (i := 4) (by decide +kernel))) rfl
theorem tw_120 : (Cond.initialized "ToffeeTown$Standing") ∈ gtbl := gm_t (gi_1 (List.mem_of_getElem? (i := 5) (by decide +kernel))) rfl
theorem tw_121 : (Cond.initialized "ToffeeTown$RuleReader") ∈ gtbl := gm_t (gi_1 (List.mem_of_getElem? (i := 6) (by decide +kernel))) rfl
theorem tw_122 : (Cond.initialized "ToffeeTown$Scene") ∈ gtbl := gm_t (gi_1 (List.mem_of_getElem? (i := 7) (by decide +kernel))) rfl
theorem tw_123 : (Cond.initialized "ToffeeTown$Days") ∈ gtbl := gm_t (gi_1 (List.mem_of_getElem? (i := 8) (by decide +kernel))) rfl
theorem tw_124 : (Cond.initialized "ToffeeTown$Rows") ∈ gtbl := gm_t (gi_1 (List.mem_of_getElem? (i := 9) (by decide +kernel))) rfl
theorem tw_125 : (Cond.initialized "ToffeeTown$Rests") ∈ gtbl := gm_t (gi_1 (List.mem_of_getElem? (i := 10) (by decide +kernel))) rfl
theorem tw_126 : (Cond.initialized "ToffeeTown$Candidates") ∈ gtbl := gm_t (gi_1 (List.mem_of_getElem? (i := 11) (by decide +kernel))) rfl
theorem tw_127 : (Cond.initialized "ToffeeTownModel") ∈ gtbl := gm_t (gi_1 (List.mem_of_getElem? (i := 12) (by decide +kernel))) rfl
theorem tw_128 : (Cond.initialized "java/util/Arrays") ∈ gtbl := gm_t (gi_1 (List.mem_of_getElem? (i := 13) (by decide +kernel))) rfl
theorem tw_129 : (Cond.initialized "java/lang/String") ∈ gtbl := gm_t (gi_1 (List.mem_of_getElem? (i := 14) (by decide +kernel))) rfl
theorem tw_130 : (Cond.initialized "java/lang/StringLatin1") ∈ gtbl := gm_t (gi_1 (List.mem_of_getElem? (i := 15) (by decide +kernel))) rfl
theorem tw_131 : (Cond.initialized "jdk/internal/util/Preconditions") ∈ gtbl := gm_t (gi_1 (List.mem_of_getElem? (i := 16) (by decide +kernel))) rfl
theorem tw_132 : (Cond.initialized "java/lang/StringUTF16") ∈ gtbl := gm_t (gi_1 (List.mem_of_getElem? (i := 17) (by decide +kernel))) rfl
theorem tw_133 : (Cond.initialized "java/lang/System") ∈ gtbl := gm_t (gi_1 (List.mem_of_getElem? (i := 18) (by decide +kernel))) rfl
theorem tw_134 : (Cond.initialized "ToffeeTown$Rule") ∈ gtbl := gm_t (gi_1 (List.mem_of_getElem? (i := 19) (by decide +kernel))) rfl
theorem tw_135 : (Cond.initialized "java/lang/Math") ∈ gtbl := gm_t (gi_1 (List.mem_of_getElem? (i := 20) (by decide +kernel))) rfl
theorem tw_136 : (Cond.initialized "java/lang/Integer") ∈ gtbl := gm_t (gi_1 (List.mem_of_getElem? (i := 21) (by decide +kernel))) rfl
theorem tw_137 : (Cond.classLink "ToffeeTownLaw" 7 "ToffeeTown") ∈ gtbl := gm_t (gi_1 (List.mem_of_getElem? (i := 22) (by decide +kernel))) rfl
theorem tw_138 : (Cond.instantiable "ToffeeTown" 13) ∈ gtbl := gm_t (gi_1 (List.mem_of_getElem? (i := 23) (by decide +kernel))) rfl
theorem tw_139 : (Cond.methodLink "ToffeeTownLaw" 9 yX11_init) ∈ gtbl := gm_t (gi_1 (List.mem_of_getElem? (i := 24) (by decide +kernel))) rfl
theorem tw_140 : (Cond.instanceMethod yX11_init) ∈ gtbl := gm_t (gi_1 (List.mem_of_getElem? (i := 25) (by decide +kernel))) rfl
theorem tw_141 : (Cond.code yX11_init prog_1_method_1_code 1 none) ∈ gtbl := gm_t (gi_1 (List.mem_of_getElem? (i := 26) (by decide +kernel))) rfl
theorem tw_142 : (Cond.methodLink "ToffeeTown" 3 objectInit) ∈ gtbl := gm_t (gi_1 (List.mem_of_getElem? (i := 27) (by decide +kernel))) rfl
theorem tw_143 : (Cond.instanceMethod objectInit) ∈ gtbl := gm_t (gi_1 (List.mem_of_getElem? (i := 28) (by decide +kernel))) rfl
theorem tw_144 : (Cond.code objectInit object_method_1_code 1 none) ∈ gtbl := gm_t (gi_1 (List.mem_of_getElem? (i := 29) (by decide +kernel))) rfl
theorem tw_145 : (Cond.classLink "ToffeeTown" 9 "ToffeeTown$Text") ∈ gtbl := gm_t (gi_1 (List.mem_of_getElem? (i := 30) (by decide +kernel))) rfl
theorem tw_146 : (Cond.instantiable "ToffeeTown$Text" 8) ∈ gtbl := gm_t (gi_1 (List.mem_of_getElem? (i := 31) (by decide +kernel))) rfl
theorem tn_147 : (Cond.methodLinkNest "ToffeeTown" 11 yX8_init "ToffeeTown") ∈ lw_tbl := List.mem_append_right _ (gi_1 (List.mem_of_getElem? (i := 32) (by decide +kernel)))
theorem tw_148 : (Cond.instanceMethod yX8_init) ∈ gtbl := gm_t (gi_1 (List.mem_of_getElem? (i := 33) (by decide +kernel))) rfl
theorem tw_149 : (Cond.code yX8_init prog_10_method_1_code 1 none) ∈ gtbl := gm_t (gi_1 (List.mem_of_getElem? (i := 34) (by decide +kernel))) rfl
theorem tw_150 : (Cond.methodLink "ToffeeTown$Text" 3 objectInit) ∈ gtbl := gm_t (gi_1 (List.mem_of_getElem? (i := 35) (by decide +kernel))) rfl
theorem tw_151 : (Cond.fieldLink "ToffeeTown$Text" 9 "ToffeeTown$Text" "bytes" "[B") ∈ gtbl := gm_t (gi_1 (List.mem_of_getElem? (i := 36) (by decide +kernel))) rfl
theorem tw_152 : (Cond.fieldLink "ToffeeTown" 96 "ToffeeTown$Text" "size" "I") ∈ gtbl := gm_t (gi_1 (List.mem_of_getElem? (i := 37) (by decide +kernel))) rfl
theorem tw_153 : (Cond.fieldLink "ToffeeTown$Text" 25 "ToffeeTown$Text" "size" "I") ∈ gtbl := gm_t (gi_1 (List.mem_of_getElem? (i := 38) (by decide +kernel))) rfl
theorem tw_154 : (Cond.fieldLink "ToffeeTown$Text" 15 "ToffeeTown$Text" "codes" "[I") ∈ gtbl := gm_t (gi_1 (List.mem_of_getElem? (i := 39) (by decide +kernel))) rfl
theorem tw_155 : (Cond.fieldLink "ToffeeTown$Text" 19 "ToffeeTown$Text" "starts" "[I") ∈ gtbl := gm_t (gi_1 (List.mem_of_getElem? (i := 40) (by decide +kernel))) rfl
theorem tw_156 : (Cond.fieldLink "ToffeeTown$Text" 22 "ToffeeTown$Text" "numbers" "[I") ∈ gtbl := gm_t (gi_1 (List.mem_of_getElem? (i := 41) (by decide +kernel))) rfl
theorem tw_157 : (Cond.fieldLink "ToffeeTown$Text" 29 "ToffeeTown$Text" "count" "I") ∈ gtbl := gm_t (gi_1 (List.mem_of_getElem? (i := 42) (by decide +kernel))) rfl
theorem tw_158 : (Cond.fieldLink "ToffeeTown$Text" 40 "ToffeeTown$Text" "at" "I") ∈ gtbl := gm_t (gi_1 (List.mem_of_getElem? (i := 43) (by decide +kernel))) rfl
theorem tw_159 : (Cond.fieldLink "ToffeeTown$Text" 43 "ToffeeTown$Text" "fault" "I") ∈ gtbl := gm_t (gi_1 (List.mem_of_getElem? (i := 44) (by decide +kernel))) rfl
theorem tw_160 : (Cond.fieldLink "ToffeeTown" 108 "ToffeeTown$Text" "fault" "I") ∈ gtbl := gm_t (gi_1 (List.mem_of_getElem? (i := 45) (by decide +kernel))) rfl
theorem tw_178 : (Cond.arrayClass FieldType.byte) ∈ gtbl := gm_t (gi_1 (List.mem_of_getElem? (i := 63) (by decide +kernel))) rfl
theorem tw_179 : (Cond.arrayClass FieldType.int) ∈ gtbl := gm_t (gi_1 (List.mem_of_getElem? (i := 64) (by decide +kernel))) rfl
theorem tw_180 : (Cond.classLink "ToffeeTown" 16 "ToffeeTown$TownReader") ∈ gtbl := gm_t (gi_1 (List.mem_of_getElem? (i := 65) (by decide +kernel))) rfl
theorem tw_181 : (Cond.instantiable "ToffeeTown$TownReader" 2) ∈ gtbl := gm_t (gi_1 (List.mem_of_getElem? (i := 66) (by decide +kernel))) rfl
theorem tw_182 : (Cond.methodLink "ToffeeTown" 18 yX10_init) ∈ gtbl := gm_t (gi_1 (List.mem_of_getElem? (i := 67) (by decide +kernel))) rfl
theorem tw_183 : (Cond.instanceMethod yX10_init) ∈ gtbl := gm_t (gi_1 (List.mem_of_getElem? (i := 68) (by decide +kernel))) rfl
theorem tw_184 : (Cond.code yX10_init prog_12_method_1_code 2 none) ∈ gtbl := gm_t (gi_1 (List.mem_of_getElem? (i := 69) (by decide +kernel))) rfl
theorem tw_185 : (Cond.methodLink "ToffeeTown$TownReader" 3 objectInit) ∈ gtbl := gm_t (gi_1 (List.mem_of_getElem? (i := 70) (by decide +kernel))) rfl
theorem tw_186 : (Cond.classLink "ToffeeTown$TownReader" 9 "ToffeeTown$Town") ∈ gtbl := gm_t (gi_1 (List.mem_of_getElem? (i := 71) (by decide +kernel))) rfl
theorem tw_187 : (Cond.instantiable "ToffeeTown$Town" 6) ∈ gtbl := gm_t (gi_1 (List.mem_of_getElem? (i := 72) (by decide +kernel))) rfl
theorem tn_188 : (Cond.methodLinkNest "ToffeeTown$TownReader" 11 yX9_init "ToffeeTown") ∈ lw_tbl := List.mem_append_right _ (gi_1 (List.mem_of_getElem? (i := 73) (by decide +kernel)))
theorem tw_189 : (Cond.instanceMethod yX9_init) ∈ gtbl := gm_t (gi_1 (List.mem_of_getElem? (i := 74) (by decide +kernel))) rfl
theorem tw_190 : (Cond.code yX9_init prog_11_method_1_code 1 none) ∈ gtbl := gm_t (gi_1 (List.mem_of_getElem? (i := 75) (by decide +kernel))) rfl
theorem tw_191 : (Cond.methodLink "ToffeeTown$Town" 3 objectInit) ∈ gtbl := gm_t (gi_1 (List.mem_of_getElem? (i := 76) (by decide +kernel))) rfl
theorem tw_192 : (Cond.classLink "ToffeeTown$Town" 15 "ToffeeTown$Standing") ∈ gtbl := gm_t (gi_1 (List.mem_of_getElem? (i := 77) (by decide +kernel))) rfl
theorem tw_193 : (Cond.instantiable "ToffeeTown$Standing" 6) ∈ gtbl := gm_t (gi_1 (List.mem_of_getElem? (i := 78) (by decide +kernel))) rfl
theorem tn_194 : (Cond.methodLinkNest "ToffeeTown$Town" 17 yX7_init "ToffeeTown") ∈ lw_tbl := List.mem_append_right _ (gi_1 (List.mem_of_getElem? (i := 79) (by decide +kernel)))
theorem tw_195 : (Cond.instanceMethod yX7_init) ∈ gtbl := gm_t (gi_1 (List.mem_of_getElem? (i := 80) (by decide +kernel))) rfl
theorem tw_196 : (Cond.code yX7_init prog_9_method_1_code 1 none) ∈ gtbl := gm_t (gi_1 (List.mem_of_getElem? (i := 81) (by decide +kernel))) rfl
theorem tw_197 : (Cond.methodLink "ToffeeTown$Standing" 3 objectInit) ∈ gtbl := gm_t (gi_1 (List.mem_of_getElem? (i := 82) (by decide +kernel))) rfl
theorem tw_198 : (Cond.fieldLink "ToffeeTown$Standing" 21 "ToffeeTown$Standing" "day" "I") ∈ gtbl := gm_t (gi_1 (List.mem_of_getElem? (i := 83) (by decide +kernel))) rfl
theorem tw_199 : (Cond.fieldLink "ToffeeTown$Town" 48 "ToffeeTown$Standing" "day" "I") ∈ gtbl := gm_t (gi_1 (List.mem_of_getElem? (i := 84) (by decide +kernel))) rfl
theorem tw_200 : (Cond.fieldLink "ToffeeTown$Days" 84 "ToffeeTown$Standing" "day" "I") ∈ gtbl := gm_t (gi_1 (List.mem_of_getElem? (i := 85) (by decide +kernel))) rfl
theorem tw_201 : (Cond.fieldLink "ToffeeTown" 170 "ToffeeTown$Standing" "day" "I") ∈ gtbl := gm_t (gi_1 (List.mem_of_getElem? (i := 86) (by decide +kernel))) rfl
theorem tw_202 : (Cond.fieldLink "ToffeeTown$Scene" 75 "ToffeeTown$Standing" "day" "I") ∈ gtbl := gm_t (gi_1 (List.mem_of_getElem? (i := 87) (by decide +kernel))) rfl
theorem tw_203 : (Cond.fieldLink "ToffeeTown$Standing" 25 "ToffeeTown$Standing" "sugar" "I") ∈ gtbl := gm_t (gi_1 (List.mem_of_getElem? (i := 88) (by decide +kernel))) rfl
theorem tw_204 : (Cond.fieldLink "ToffeeTown$Days" 33 "ToffeeTown$Standing" "sugar" "I") ∈ gtbl := gm_t (gi_1 (List.mem_of_getElem? (i := 89) (by decide +kernel))) rfl
theorem tw_205 : (Cond.fieldLink "ToffeeTown$Rows" 50 "ToffeeTown$Standing" "sugar" "I") ∈ gtbl := gm_t (gi_1 (List.mem_of_getElem? (i := 90) (by decide +kernel))) rfl
theorem tw_206 : (Cond.fieldLink "ToffeeTown$TownReader" 84 "ToffeeTown$Standing" "sugar" "I") ∈ gtbl := gm_t (gi_1 (List.mem_of_getElem? (i := 91) (by decide +kernel))) rfl
theorem tw_207 : (Cond.fieldLink "ToffeeTown" 199 "ToffeeTown$Standing" "sugar" "I") ∈ gtbl := gm_t (gi_1 (List.mem_of_getElem? (i := 92) (by decide +kernel))) rfl
theorem tw_208 : (Cond.fieldLink "ToffeeTown$Standing" 28 "ToffeeTown$Standing" "ice" "I") ∈ gtbl := gm_t (gi_1 (List.mem_of_getElem? (i := 93) (by decide +kernel))) rfl
theorem tw_209 : (Cond.fieldLink "ToffeeTown$Town" 55 "ToffeeTown$Standing" "ice" "I") ∈ gtbl := gm_t (gi_1 (List.mem_of_getElem? (i := 94) (by decide +kernel))) rfl
theorem tw_210 : (Cond.fieldLink "ToffeeTown$Days" 104 "ToffeeTown$Standing" "ice" "I") ∈ gtbl := gm_t (gi_1 (List.mem_of_getElem? (i := 95) (by decide +kernel))) rfl
theorem tw_211 : (Cond.fieldLink "ToffeeTown" 205 "ToffeeTown$Standing" "ice" "I") ∈ gtbl := gm_t (gi_1 (List.mem_of_getElem? (i := 96) (by decide +kernel))) rfl
theorem tw_212 : (Cond.fieldLink "ToffeeTown$Standing" 9 "ToffeeTown$Standing" "places" "[I") ∈ gtbl := gm_t (gi_1 (List.mem_of_getElem? (i := 97) (by decide +kernel))) rfl
theorem tw_213 : (Cond.fieldLink "ToffeeTown$Rests" 40 "ToffeeTown$Standing" "places" "[I") ∈ gtbl := gm_t (gi_1 (List.mem_of_getElem? (i := 98) (by decide +kernel))) rfl
theorem tw_214 : (Cond.fieldLink "ToffeeTown$Candidates" 68 "ToffeeTown$Standing" "places" "[I") ∈ gtbl := gm_t (gi_1 (List.mem_of_getElem? (i := 99) (by decide +kernel))) rfl
theorem tw_215 : (Cond.fieldLink "ToffeeTown$Days" 72 "ToffeeTown$Standing" "places" "[I") ∈ gtbl := gm_t (gi_1 (List.mem_of_getElem? (i := 100) (by decide +kernel))) rfl
theorem tw_216 : (Cond.fieldLink "ToffeeTown$Town" 64 "ToffeeTown$Standing" "places" "[I") ∈ gtbl := gm_t (gi_1 (List.mem_of_getElem? (i := 101) (by decide +kernel))) rfl
theorem tw_217 : (Cond.fieldLink "ToffeeTown$TownReader" 96 "ToffeeTown$Standing" "places" "[I") ∈ gtbl := gm_t (gi_1 (List.mem_of_getElem? (i := 102) (by decide +kernel))) rfl
theorem tw_218 : (Cond.fieldLink "ToffeeTown" 143 "ToffeeTown$Standing" "places" "[I") ∈ gtbl := gm_t (gi_1 (List.mem_of_getElem? (i := 103) (by decide +kernel))) rfl
theorem tw_219 : (Cond.fieldLink "ToffeeTown$Scene" 78 "ToffeeTown$Standing" "places" "[I") ∈ gtbl := gm_t (gi_1 (List.mem_of_getElem? (i := 104) (by decide +kernel))) rfl
theorem tw_220 : (Cond.fieldLink "ToffeeTown$Standing" 15 "ToffeeTown$Standing" "rocks" "[I") ∈ gtbl := gm_t (gi_1 (List.mem_of_getElem? (i := 105) (by decide +kernel))) rfl
theorem tw_221 : (Cond.fieldLink "ToffeeTown$Rests" 31 "ToffeeTown$Standing" "rocks" "[I") ∈ gtbl := gm_t (gi_1 (List.mem_of_getElem? (i := 106) (by decide +kernel))) rfl
theorem tw_222 : (Cond.fieldLink "ToffeeTown$Days" 81 "ToffeeTown$Standing" "rocks" "[I") ∈ gtbl := gm_t (gi_1 (List.mem_of_getElem? (i := 107) (by decide +kernel))) rfl
theorem tw_223 : (Cond.fieldLink "ToffeeTown" 146 "ToffeeTown$Standing" "rocks" "[I") ∈ gtbl := gm_t (gi_1 (List.mem_of_getElem? (i := 108) (by decide +kernel))) rfl
theorem tw_224 : (Cond.fieldLink "ToffeeTown$TownReader" 106 "ToffeeTown$Standing" "rocks" "[I") ∈ gtbl := gm_t (gi_1 (List.mem_of_getElem? (i := 109) (by decide +kernel))) rfl
theorem tw_225 : (Cond.fieldLink "ToffeeTown$Standing" 18 "ToffeeTown$Standing" "pours" "[I") ∈ gtbl := gm_t (gi_1 (List.mem_of_getElem? (i := 110) (by decide +kernel))) rfl
theorem tw_239 : (Cond.fieldLink "ToffeeTown$Town" 22 "ToffeeTown$Town" "hill" "I") ∈ gtbl := gm_t (gi_1 (List.mem_of_getElem? (i := 124) (by decide +kernel))) rfl
theorem tw_240 : (Cond.fieldLink "ToffeeTown$TownReader" 77 "ToffeeTown$Town" "hill" "I") ∈ gtbl := gm_t (gi_1 (List.mem_of_getElem? (i := 125) (by decide +kernel))) rfl
theorem tw_241 : (Cond.fieldLink "ToffeeTown$Days" 93 "ToffeeTown$Town" "hill" "I") ∈ gtbl := gm_t (gi_1 (List.mem_of_getElem? (i := 126) (by decide +kernel))) rfl
theorem tw_242 : (Cond.fieldLink "ToffeeTown" 202 "ToffeeTown$Town" "hill" "I") ∈ gtbl := gm_t (gi_1 (List.mem_of_getElem? (i := 127) (by decide +kernel))) rfl
theorem tw_243 : (Cond.fieldLink "ToffeeTown$Town" 26 "ToffeeTown$Town" "stick" "I") ∈ gtbl := gm_t (gi_1 (List.mem_of_getElem? (i := 128) (by decide +kernel))) rfl
theorem tw_244 : (Cond.fieldLink "ToffeeTown$TownReader" 89 "ToffeeTown$Town" "stick" "I") ∈ gtbl := gm_t (gi_1 (List.mem_of_getElem? (i := 129) (by decide +kernel))) rfl
theorem tw_245 : (Cond.fieldLink "ToffeeTown$Days" 138 "ToffeeTown$Town" "stick" "I") ∈ gtbl := gm_t (gi_1 (List.mem_of_getElem? (i := 130) (by decide +kernel))) rfl
theorem tw_246 : (Cond.fieldLink "ToffeeTown" 309 "ToffeeTown$Town" "stick" "I") ∈ gtbl := gm_t (gi_1 (List.mem_of_getElem? (i := 131) (by decide +kernel))) rfl
theorem tw_247 : (Cond.fieldLink "ToffeeTown$Town" 9 "ToffeeTown$Town" "heats" "[I") ∈ gtbl := gm_t (gi_1 (List.mem_of_getElem? (i := 132) (by decide +kernel))) rfl
theorem tw_248 : (Cond.fieldLink "ToffeeTown$TownReader" 92 "ToffeeTown$Town" "heats" "[I") ∈ gtbl := gm_t (gi_1 (List.mem_of_getElem? (i := 133) (by decide +kernel))) rfl
theorem tw_249 : (Cond.fieldLink "ToffeeTown$Town" 29 "ToffeeTown$Town" "heatCount" "I") ∈ gtbl := gm_t (gi_1 (List.mem_of_getElem? (i := 134) (by decide +kernel))) rfl
theorem tw_250 : (Cond.fieldLink "ToffeeTown$TownReader" 66 "ToffeeTown$Town" "heatCount" "I") ∈ gtbl := gm_t (gi_1 (List.mem_of_getElem? (i := 135) (by decide +kernel))) rfl
theorem tw_251 : (Cond.fieldLink "ToffeeTown" 312 "ToffeeTown$Town" "heatCount" "I") ∈ gtbl := gm_t (gi_1 (List.mem_of_getElem? (i := 136) (by decide +kernel))) rfl
theorem tw_252 : (Cond.fieldLink "ToffeeTown$Town" 32 "ToffeeTown$Town" "houseCount" "I") ∈ gtbl := gm_t (gi_1 (List.mem_of_getElem? (i := 137) (by decide +kernel))) rfl
theorem tw_253 : (Cond.fieldLink "ToffeeTown$Rows" 59 "ToffeeTown$Town" "houseCount" "I") ∈ gtbl := gm_t (gi_1 (List.mem_of_getElem? (i := 138) (by decide +kernel))) rfl
theorem tw_254 : (Cond.fieldLink "ToffeeTown$Days" 47 "ToffeeTown$Town" "houseCount" "I") ∈ gtbl := gm_t (gi_1 (List.mem_of_getElem? (i := 139) (by decide +kernel))) rfl
theorem tw_255 : (Cond.fieldLink "ToffeeTown$TownReader" 70 "ToffeeTown$Town" "houseCount" "I") ∈ gtbl := gm_t (gi_1 (List.mem_of_getElem? (i := 140) (by decide +kernel))) rfl
theorem tw_256 : (Cond.fieldLink "ToffeeTown" 117 "ToffeeTown$Town" "houseCount" "I") ∈ gtbl := gm_t (gi_1 (List.mem_of_getElem? (i := 141) (by decide +kernel))) rfl
theorem tw_257 : (Cond.fieldLink "ToffeeTown$Town" 18 "ToffeeTown$Town" "begin" "LToffeeTown$Standing;") ∈ gtbl := gm_t (gi_1 (List.mem_of_getElem? (i := 142) (by decide +kernel))) rfl
theorem tw_258 : (Cond.fieldLink "ToffeeTown$Scene" 47 "ToffeeTown$Town" "begin" "LToffeeTown$Standing;") ∈ gtbl := gm_t (gi_1 (List.mem_of_getElem? (i := 143) (by decide +kernel))) rfl
theorem tw_259 : (Cond.fieldLink "ToffeeTown$Candidates" 55 "ToffeeTown$Town" "begin" "LToffeeTown$Standing;") ∈ gtbl := gm_t (gi_1 (List.mem_of_getElem? (i := 144) (by decide +kernel))) rfl
theorem tw_260 : (Cond.fieldLink "ToffeeTown$TownReader" 80 "ToffeeTown$Town" "begin" "LToffeeTown$Standing;") ∈ gtbl := gm_t (gi_1 (List.mem_of_getElem? (i := 145) (by decide +kernel))) rfl
theorem tw_274 : (Cond.fieldLink "ToffeeTown$TownReader" 18 "ToffeeTown$TownReader" "text" "LToffeeTown$Text;") ∈ gtbl := gm_t (gi_1 (List.mem_of_getElem? (i := 159) (by decide +kernel))) rfl
theorem tw_275 : (Cond.fieldLink "ToffeeTown$TownReader" 12 "ToffeeTown$TownReader" "draft" "LToffeeTown$Town;") ∈ gtbl := gm_t (gi_1 (List.mem_of_getElem? (i := 160) (by decide +kernel))) rfl
theorem tw_276 : (Cond.fieldLink "ToffeeTown" 111 "ToffeeTown$TownReader" "draft" "LToffeeTown$Town;") ∈ gtbl := gm_t (gi_1 (List.mem_of_getElem? (i := 161) (by decide +kernel))) rfl
theorem tw_282 : (Cond.classLink "ToffeeTown" 25 "ToffeeTown$RuleReader") ∈ gtbl := gm_t (gi_1 (List.mem_of_getElem? (i := 167) (by decide +kernel))) rfl
theorem tw_283 : (Cond.instantiable "ToffeeTown$RuleReader" 4) ∈ gtbl := gm_t (gi_1 (List.mem_of_getElem? (i := 168) (by decide +kernel))) rfl
theorem tw_284 : (Cond.methodLink "ToffeeTown" 27 yX5_init) ∈ gtbl := gm_t (gi_1 (List.mem_of_getElem? (i := 169) (by decide +kernel))) rfl
theorem tw_285 : (Cond.instanceMethod yX5_init) ∈ gtbl := gm_t (gi_1 (List.mem_of_getElem? (i := 170) (by decide +kernel))) rfl
theorem tw_286 : (Cond.code yX5_init prog_7_method_1_code 2 none) ∈ gtbl := gm_t (gi_1 (List.mem_of_getElem? (i := 171) (by decide +kernel))) rfl
theorem tw_287 : (Cond.methodLink "ToffeeTown$RuleReader" 3 objectInit) ∈ gtbl := gm_t (gi_1 (List.mem_of_getElem? (i := 172) (by decide +kernel))) rfl
theorem tw_288 : (Cond.fieldLink "ToffeeTown$RuleReader" 15 "ToffeeTown$RuleReader" "text" "LToffeeTown$Text;") ∈ gtbl := gm_t (gi_1 (List.mem_of_getElem? (i := 173) (by decide +kernel))) rfl
theorem tw_289 : (Cond.fieldLink "ToffeeTown$RuleReader" 9 "ToffeeTown$RuleReader" "steps" "[I") ∈ gtbl := gm_t (gi_1 (List.mem_of_getElem? (i := 174) (by decide +kernel))) rfl
theorem tw_290 : (Cond.fieldLink "ToffeeTown$RuleReader" 19 "ToffeeTown$RuleReader" "stepCount" "I") ∈ gtbl := gm_t (gi_1 (List.mem_of_getElem? (i := 175) (by decide +kernel))) rfl
theorem tw_291 : (Cond.fieldLink "ToffeeTown$RuleReader" 23 "ToffeeTown$RuleReader" "partCount" "I") ∈ gtbl := gm_t (gi_1 (List.mem_of_getElem? (i := 176) (by decide +kernel))) rfl
theorem tw_301 : (Cond.classLink "ToffeeTown" 32 "ToffeeTown$Rule") ∈ gtbl := gm_t (gi_1 (List.mem_of_getElem? (i := 186) (by decide +kernel))) rfl
theorem tn_302 : (Cond.arrayOver (FieldType.object "ToffeeTown$Rule")) ∈ lw_tbl := List.mem_append_right _ (gi_1 (List.mem_of_getElem? (i := 187) (by decide +kernel)))
theorem tw_303 : (Cond.classLink "ToffeeTown" 38 "ToffeeTown$Scene") ∈ gtbl := gm_t (gi_1 (List.mem_of_getElem? (i := 188) (by decide +kernel))) rfl
theorem tw_304 : (Cond.instantiable "ToffeeTown$Scene" 10) ∈ gtbl := gm_t (gi_1 (List.mem_of_getElem? (i := 189) (by decide +kernel))) rfl
theorem tn_305 : (Cond.methodLinkNest "ToffeeTown" 40 yX6_init "ToffeeTown") ∈ lw_tbl := List.mem_append_right _ (gi_1 (List.mem_of_getElem? (i := 190) (by decide +kernel)))
theorem tw_306 : (Cond.instanceMethod yX6_init) ∈ gtbl := gm_t (gi_1 (List.mem_of_getElem? (i := 191) (by decide +kernel))) rfl
theorem tw_307 : (Cond.code yX6_init prog_8_method_1_code 1 none) ∈ gtbl := gm_t (gi_1 (List.mem_of_getElem? (i := 192) (by decide +kernel))) rfl
theorem tw_308 : (Cond.methodLink "ToffeeTown$Scene" 3 objectInit) ∈ gtbl := gm_t (gi_1 (List.mem_of_getElem? (i := 193) (by decide +kernel))) rfl
theorem tw_309 : (Cond.classLink "ToffeeTown$Scene" 9 "ToffeeTown$Town") ∈ gtbl := gm_t (gi_1 (List.mem_of_getElem? (i := 194) (by decide +kernel))) rfl
theorem tn_310 : (Cond.methodLinkNest "ToffeeTown$Scene" 11 yX9_init "ToffeeTown") ∈ lw_tbl := List.mem_append_right _ (gi_1 (List.mem_of_getElem? (i := 195) (by decide +kernel)))
theorem tw_311 : (Cond.classLink "ToffeeTown$Scene" 18 "ToffeeTown$Standing") ∈ gtbl := gm_t (gi_1 (List.mem_of_getElem? (i := 196) (by decide +kernel))) rfl
theorem tn_312 : (Cond.methodLinkNest "ToffeeTown$Scene" 20 yX7_init "ToffeeTown") ∈ lw_tbl := List.mem_append_right _ (gi_1 (List.mem_of_getElem? (i := 197) (by decide +kernel)))
theorem tn_313 : (Cond.arrayOver (FieldType.object "ToffeeTown$Standing")) ∈ lw_tbl := List.mem_append_right _ (gi_1 (List.mem_of_getElem? (i := 198) (by decide +kernel)))
theorem tw_314 : (Cond.fieldLink "ToffeeTown$Scene" 12 "ToffeeTown$Scene" "town" "LToffeeTown$Town;") ∈ gtbl := gm_t (gi_1 (List.mem_of_getElem? (i := 199) (by decide +kernel))) rfl
theorem tw_315 : (Cond.fieldLink "ToffeeTown" 51 "ToffeeTown$Scene" "town" "LToffeeTown$Town;") ∈ gtbl := gm_t (gi_1 (List.mem_of_getElem? (i := 200) (by decide +kernel))) rfl
theorem tw_316 : (Cond.fieldLink "ToffeeTown$Scene" 21 "ToffeeTown$Scene" "now" "LToffeeTown$Standing;") ∈ gtbl := gm_t (gi_1 (List.mem_of_getElem? (i := 201) (by decide +kernel))) rfl
theorem tw_317 : (Cond.fieldLink "ToffeeTown" 140 "ToffeeTown$Scene" "now" "LToffeeTown$Standing;") ∈ gtbl := gm_t (gi_1 (List.mem_of_getElem? (i := 202) (by decide +kernel))) rfl
theorem tw_318 : (Cond.fieldLink "ToffeeTown$Scene" 25 "ToffeeTown$Scene" "past" "[LToffeeTown$Standing;") ∈ gtbl := gm_t (gi_1 (List.mem_of_getElem? (i := 203) (by decide +kernel))) rfl
theorem tw_319 : (Cond.fieldLink "ToffeeTown$Scene" 53 "ToffeeTown$Scene" "pastCount" "I") ∈ gtbl := gm_t (gi_1 (List.mem_of_getElem? (i := 204) (by decide +kernel))) rfl
theorem tw_320 : (Cond.fieldLink "ToffeeTown" 211 "ToffeeTown$Scene" "pastCount" "I") ∈ gtbl := gm_t (gi_1 (List.mem_of_getElem? (i := 205) (by decide +kernel))) rfl
theorem tw_321 : (Cond.fieldLink "ToffeeTown$Scene" 29 "ToffeeTown$Scene" "noteDays" "[I") ∈ gtbl := gm_t (gi_1 (List.mem_of_getElem? (i := 206) (by decide +kernel))) rfl
theorem tw_322 : (Cond.fieldLink "ToffeeTown$Scene" 33 "ToffeeTown$Scene" "noteHouses" "[I") ∈ gtbl := gm_t (gi_1 (List.mem_of_getElem? (i := 207) (by decide +kernel))) rfl
theorem tw_323 : (Cond.fieldLink "ToffeeTown$Scene" 36 "ToffeeTown$Scene" "notePlaces" "[I") ∈ gtbl := gm_t (gi_1 (List.mem_of_getElem? (i := 208) (by decide +kernel))) rfl
theorem tw_324 : (Cond.fieldLink "ToffeeTown$Scene" 56 "ToffeeTown$Scene" "noteCount" "I") ∈ gtbl := gm_t (gi_1 (List.mem_of_getElem? (i := 209) (by decide +kernel))) rfl
theorem tw_325 : (Cond.fieldLink "ToffeeTown" 274 "ToffeeTown$Scene" "noteCount" "I") ∈ gtbl := gm_t (gi_1 (List.mem_of_getElem? (i := 210) (by decide +kernel))) rfl
theorem tw_326 : (Cond.fieldLink "ToffeeTown$Scene" 39 "ToffeeTown$Scene" "inForce" "I") ∈ gtbl := gm_t (gi_1 (List.mem_of_getElem? (i := 211) (by decide +kernel))) rfl
theorem tw_327 : (Cond.fieldLink "ToffeeTown" 133 "ToffeeTown$Scene" "inForce" "I") ∈ gtbl := gm_t (gi_1 (List.mem_of_getElem? (i := 212) (by decide +kernel))) rfl
theorem tw_328 : (Cond.fieldLink "ToffeeTown$Scene" 69 "ToffeeTown$Scene" "x" "I") ∈ gtbl := gm_t (gi_1 (List.mem_of_getElem? (i := 213) (by decide +kernel))) rfl
theorem tw_329 : (Cond.fieldLink "ToffeeTown" 290 "ToffeeTown$Scene" "x" "I") ∈ gtbl := gm_t (gi_1 (List.mem_of_getElem? (i := 214) (by decide +kernel))) rfl
theorem tn_351 : (Cond.arrayOver (FieldType.object "ToffeeTown$Scene")) ∈ lw_tbl := List.mem_append_right _ (gi_1 (List.mem_of_getElem? (i := 236) (by decide +kernel)))
theorem tw_352 : (Cond.classLink "ToffeeTown" 49 "ToffeeTown$Days") ∈ gtbl := gm_t (gi_1 (List.mem_of_getElem? (i := 237) (by decide +kernel))) rfl
theorem tw_353 : (Cond.instantiable "ToffeeTown$Days" 3) ∈ gtbl := gm_t (gi_1 (List.mem_of_getElem? (i := 238) (by decide +kernel))) rfl
theorem tw_354 : (Cond.methodLink "ToffeeTown" 55 yX1_init) ∈ gtbl := gm_t (gi_1 (List.mem_of_getElem? (i := 239) (by decide +kernel))) rfl
theorem tw_355 : (Cond.instanceMethod yX1_init) ∈ gtbl := gm_t (gi_2 (List.mem_of_getElem? (i := 0) (by decide +kernel))) rfl
theorem tw_356 : (Cond.code yX1_init prog_3_method_1_code 2 none) ∈ gtbl := gm_t (gi_2 (List.mem_of_getElem? (i := 1) (by decide +kernel))) rfl
theorem tw_357 : (Cond.methodLink "ToffeeTown$Days" 3 objectInit) ∈ gtbl := gm_t (gi_2 (List.mem_of_getElem? (i := 2) (by decide +kernel))) rfl
theorem tw_358 : (Cond.fieldLink "ToffeeTown$Days" 19 "ToffeeTown$Days" "town" "LToffeeTown$Town;") ∈ gtbl := gm_t (gi_2 (List.mem_of_getElem? (i := 3) (by decide +kernel))) rfl
theorem tw_359 : (Cond.fieldLink "ToffeeTown$Candidates" 49 "ToffeeTown$Days" "town" "LToffeeTown$Town;") ∈ gtbl := gm_t (gi_2 (List.mem_of_getElem? (i := 4) (by decide +kernel))) rfl
theorem tw_360 : (Cond.fieldLink "ToffeeTown$Rows" 53 "ToffeeTown$Days" "town" "LToffeeTown$Town;") ∈ gtbl := gm_t (gi_2 (List.mem_of_getElem? (i := 5) (by decide +kernel))) rfl
theorem tw_361 : (Cond.fieldLink "ToffeeTown$Days" 9 "ToffeeTown$Days" "holds" "[I") ∈ gtbl := gm_t (gi_2 (List.mem_of_getElem? (i := 6) (by decide +kernel))) rfl
theorem tw_362 : (Cond.fieldLink "ToffeeTown$Days" 15 "ToffeeTown$Days" "words" "[J") ∈ gtbl := gm_t (gi_2 (List.mem_of_getElem? (i := 7) (by decide +kernel))) rfl
theorem tw_370 : (Cond.arrayClass FieldType.long) ∈ gtbl := gm_t (gi_2 (List.mem_of_getElem? (i := 15) (by decide +kernel))) rfl
theorem tw_371 : (Cond.classLink "ToffeeTown" 62 "ToffeeTown$Standing") ∈ gtbl := gm_t (gi_2 (List.mem_of_getElem? (i := 16) (by decide +kernel))) rfl
theorem tn_372 : (Cond.methodLinkNest "ToffeeTown" 64 yX7_init "ToffeeTown") ∈ lw_tbl := List.mem_append_right _ (gi_2 (List.mem_of_getElem? (i := 17) (by decide +kernel)))
theorem tw_373 : (Cond.classLink "ToffeeTown" 73 "ToffeeTown$Rows") ∈ gtbl := gm_t (gi_2 (List.mem_of_getElem? (i := 18) (by decide +kernel))) rfl
theorem tw_374 : (Cond.instantiable "ToffeeTown$Rows" 5) ∈ gtbl := gm_t (gi_2 (List.mem_of_getElem? (i := 19) (by decide +kernel))) rfl
theorem tw_375 : (Cond.methodLink "ToffeeTown" 75 yX3_init) ∈ gtbl := gm_t (gi_2 (List.mem_of_getElem? (i := 20) (by decide +kernel))) rfl
theorem tw_376 : (Cond.instanceMethod yX3_init) ∈ gtbl := gm_t (gi_2 (List.mem_of_getElem? (i := 21) (by decide +kernel))) rfl
theorem tw_377 : (Cond.code yX3_init prog_5_method_1_code 2 none) ∈ gtbl := gm_t (gi_2 (List.mem_of_getElem? (i := 22) (by decide +kernel))) rfl
theorem tw_378 : (Cond.methodLink "ToffeeTown$Rows" 3 objectInit) ∈ gtbl := gm_t (gi_2 (List.mem_of_getElem? (i := 23) (by decide +kernel))) rfl
theorem tw_379 : (Cond.classLink "ToffeeTown$Rows" 9 "ToffeeTown$Standing") ∈ gtbl := gm_t (gi_2 (List.mem_of_getElem? (i := 24) (by decide +kernel))) rfl
theorem tn_380 : (Cond.methodLinkNest "ToffeeTown$Rows" 11 yX7_init "ToffeeTown") ∈ lw_tbl := List.mem_append_right _ (gi_2 (List.mem_of_getElem? (i := 25) (by decide +kernel)))
theorem tw_381 : (Cond.fieldLink "ToffeeTown$Rows" 25 "ToffeeTown$Rows" "days" "LToffeeTown$Days;") ∈ gtbl := gm_t (gi_2 (List.mem_of_getElem? (i := 26) (by decide +kernel))) rfl
theorem tw_382 : (Cond.fieldLink "ToffeeTown$Rows" 12 "ToffeeTown$Rows" "steps" "[LToffeeTown$Standing;") ∈ gtbl := gm_t (gi_2 (List.mem_of_getElem? (i := 27) (by decide +kernel))) rfl
theorem tw_383 : (Cond.fieldLink "ToffeeTown$Rows" 18 "ToffeeTown$Rows" "tried" "[I") ∈ gtbl := gm_t (gi_2 (List.mem_of_getElem? (i := 28) (by decide +kernel))) rfl
theorem tw_384 : (Cond.fieldLink "ToffeeTown$Rows" 22 "ToffeeTown$Rows" "best" "[I") ∈ gtbl := gm_t (gi_2 (List.mem_of_getElem? (i := 29) (by decide +kernel))) rfl
theorem tw_385 : (Cond.fieldLink "ToffeeTown" 253 "ToffeeTown$Rows" "best" "[I") ∈ gtbl := gm_t (gi_2 (List.mem_of_getElem? (i := 30) (by decide +kernel))) rfl
theorem tw_386 : (Cond.fieldLink "ToffeeTown$Rows" 30 "ToffeeTown$Rows" "least" "I") ∈ gtbl := gm_t (gi_2 (List.mem_of_getElem? (i := 31) (by decide +kernel))) rfl
theorem tw_387 : (Cond.fieldLink "ToffeeTown" 250 "ToffeeTown$Rows" "least" "I") ∈ gtbl := gm_t (gi_2 (List.mem_of_getElem? (i := 32) (by decide +kernel))) rfl
theorem tw_399 : (Cond.classLink "ToffeeTown" 82 "ToffeeTown$Rests") ∈ gtbl := gm_t (gi_2 (List.mem_of_getElem? (i := 44) (by decide +kernel))) rfl
theorem tw_400 : (Cond.instantiable "ToffeeTown$Rests" 7) ∈ gtbl := gm_t (gi_2 (List.mem_of_getElem? (i := 45) (by decide +kernel))) rfl
theorem tw_401 : (Cond.methodLink "ToffeeTown" 84 yX2_init) ∈ gtbl := gm_t (gi_2 (List.mem_of_getElem? (i := 46) (by decide +kernel))) rfl
theorem tw_402 : (Cond.instanceMethod yX2_init) ∈ gtbl := gm_t (gi_2 (List.mem_of_getElem? (i := 47) (by decide +kernel))) rfl
theorem tw_403 : (Cond.code yX2_init prog_4_method_1_code 2 none) ∈ gtbl := gm_t (gi_2 (List.mem_of_getElem? (i := 48) (by decide +kernel))) rfl
theorem tw_404 : (Cond.methodLink "ToffeeTown$Rests" 1 objectInit) ∈ gtbl := gm_t (gi_2 (List.mem_of_getElem? (i := 49) (by decide +kernel))) rfl
theorem tw_405 : (Cond.classLink "ToffeeTown$Rests" 7 "ToffeeTown$Standing") ∈ gtbl := gm_t (gi_2 (List.mem_of_getElem? (i := 50) (by decide +kernel))) rfl
theorem tn_406 : (Cond.methodLinkNest "ToffeeTown$Rests" 9 yX7_init "ToffeeTown") ∈ lw_tbl := List.mem_append_right _ (gi_2 (List.mem_of_getElem? (i := 51) (by decide +kernel)))
theorem tw_407 : (Cond.fieldLink "ToffeeTown$Rests" 23 "ToffeeTown$Rests" "days" "LToffeeTown$Days;") ∈ gtbl := gm_t (gi_2 (List.mem_of_getElem? (i := 52) (by decide +kernel))) rfl
theorem tw_408 : (Cond.fieldLink "ToffeeTown$Rests" 10 "ToffeeTown$Rests" "trial" "LToffeeTown$Standing;") ∈ gtbl := gm_t (gi_2 (List.mem_of_getElem? (i := 53) (by decide +kernel))) rfl
theorem tw_409 : (Cond.fieldLink "ToffeeTown$Rests" 16 "ToffeeTown$Rests" "lossesOne" "[I") ∈ gtbl := gm_t (gi_2 (List.mem_of_getElem? (i := 54) (by decide +kernel))) rfl
theorem tw_410 : (Cond.fieldLink "ToffeeTown$Rests" 20 "ToffeeTown$Rests" "lossesOther" "[I") ∈ gtbl := gm_t (gi_2 (List.mem_of_getElem? (i := 55) (by decide +kernel))) rfl
theorem tw_411 : (Cond.fieldLink "ToffeeTown$Rests" 43 "ToffeeTown$Rests" "many" "I") ∈ gtbl := gm_t (gi_2 (List.mem_of_getElem? (i := 56) (by decide +kernel))) rfl
theorem tw_412 : (Cond.fieldLink "ToffeeTown" 262 "ToffeeTown$Rests" "many" "I") ∈ gtbl := gm_t (gi_2 (List.mem_of_getElem? (i := 57) (by decide +kernel))) rfl
theorem tw_413 : (Cond.fieldLink "ToffeeTown$Rests" 47 "ToffeeTown$Rests" "firstOne" "I") ∈ gtbl := gm_t (gi_2 (List.mem_of_getElem? (i := 58) (by decide +kernel))) rfl
theorem tw_414 : (Cond.fieldLink "ToffeeTown" 265 "ToffeeTown$Rests" "firstOne" "I") ∈ gtbl := gm_t (gi_2 (List.mem_of_getElem? (i := 59) (by decide +kernel))) rfl
theorem tw_415 : (Cond.fieldLink "ToffeeTown$Rests" 50 "ToffeeTown$Rests" "firstOther" "I") ∈ gtbl := gm_t (gi_2 (List.mem_of_getElem? (i := 60) (by decide +kernel))) rfl
theorem tw_416 : (Cond.fieldLink "ToffeeTown" 268 "ToffeeTown$Rests" "firstOther" "I") ∈ gtbl := gm_t (gi_2 (List.mem_of_getElem? (i := 61) (by decide +kernel))) rfl
theorem tw_432 : (Cond.classLink "ToffeeTown" 89 "ToffeeTown$Candidates") ∈ gtbl := gm_t (gi_2 (List.mem_of_getElem? (i := 77) (by decide +kernel))) rfl
theorem tw_433 : (Cond.instantiable "ToffeeTown$Candidates" 5) ∈ gtbl := gm_t (gi_2 (List.mem_of_getElem? (i := 78) (by decide +kernel))) rfl
theorem tw_434 : (Cond.methodLink "ToffeeTown" 91 yX0_init) ∈ gtbl := gm_t (gi_2 (List.mem_of_getElem? (i := 79) (by decide +kernel))) rfl
theorem tw_435 : (Cond.instanceMethod yX0_init) ∈ gtbl := gm_t (gi_2 (List.mem_of_getElem? (i := 80) (by decide +kernel))) rfl
theorem tw_436 : (Cond.code yX0_init prog_2_method_1_code 2 none) ∈ gtbl := gm_t (gi_2 (List.mem_of_getElem? (i := 81) (by decide +kernel))) rfl
theorem tw_437 : (Cond.methodLink "ToffeeTown$Candidates" 3 objectInit) ∈ gtbl := gm_t (gi_2 (List.mem_of_getElem? (i := 82) (by decide +kernel))) rfl
theorem tw_438 : (Cond.classLink "ToffeeTown$Candidates" 9 "ToffeeTown$Standing") ∈ gtbl := gm_t (gi_2 (List.mem_of_getElem? (i := 83) (by decide +kernel))) rfl
theorem tn_439 : (Cond.methodLinkNest "ToffeeTown$Candidates" 11 yX7_init "ToffeeTown") ∈ lw_tbl := List.mem_append_right _ (gi_2 (List.mem_of_getElem? (i := 84) (by decide +kernel)))
theorem tw_440 : (Cond.fieldLink "ToffeeTown$Candidates" 25 "ToffeeTown$Candidates" "days" "LToffeeTown$Days;") ∈ gtbl := gm_t (gi_2 (List.mem_of_getElem? (i := 85) (by decide +kernel))) rfl
theorem tw_441 : (Cond.fieldLink "ToffeeTown$Candidates" 12 "ToffeeTown$Candidates" "trial" "LToffeeTown$Standing;") ∈ gtbl := gm_t (gi_2 (List.mem_of_getElem? (i := 86) (by decide +kernel))) rfl
theorem tw_442 : (Cond.fieldLink "ToffeeTown$Candidates" 18 "ToffeeTown$Candidates" "which" "[I") ∈ gtbl := gm_t (gi_2 (List.mem_of_getElem? (i := 87) (by decide +kernel))) rfl
theorem tw_443 : (Cond.fieldLink "ToffeeTown" 284 "ToffeeTown$Candidates" "which" "[I") ∈ gtbl := gm_t (gi_2 (List.mem_of_getElem? (i := 88) (by decide +kernel))) rfl
theorem tw_444 : (Cond.fieldLink "ToffeeTown$Candidates" 29 "ToffeeTown$Candidates" "many" "I") ∈ gtbl := gm_t (gi_2 (List.mem_of_getElem? (i := 89) (by decide +kernel))) rfl
theorem tw_445 : (Cond.fieldLink "ToffeeTown" 283 "ToffeeTown$Candidates" "many" "I") ∈ gtbl := gm_t (gi_2 (List.mem_of_getElem? (i := 90) (by decide +kernel))) rfl
theorem tw_446 : (Cond.fieldLink "ToffeeTown$Candidates" 22 "ToffeeTown$Candidates" "seen" "[I") ∈ gtbl := gm_t (gi_2 (List.mem_of_getElem? (i := 91) (by decide +kernel))) rfl
theorem tw_458 : (Cond.fieldLink "ToffeeTown" 12 "ToffeeTown" "text" "LToffeeTown$Text;") ∈ gtbl := gm_t (gi_2 (List.mem_of_getElem? (i := 103) (by decide +kernel))) rfl
theorem tw_459 : (Cond.fieldLink "ToffeeTown" 21 "ToffeeTown" "townReader" "LToffeeTown$TownReader;") ∈ gtbl := gm_t (gi_2 (List.mem_of_getElem? (i := 104) (by decide +kernel))) rfl
theorem tw_460 : (Cond.fieldLink "ToffeeTown" 28 "ToffeeTown" "ruleReader" "LToffeeTown$RuleReader;") ∈ gtbl := gm_t (gi_2 (List.mem_of_getElem? (i := 105) (by decide +kernel))) rfl
theorem tw_461 : (Cond.fieldLink "ToffeeTown" 34 "ToffeeTown" "rules" "[LToffeeTown$Rule;") ∈ gtbl := gm_t (gi_2 (List.mem_of_getElem? (i := 106) (by decide +kernel))) rfl
theorem tw_462 : (Cond.fieldLink "ToffeeTown" 122 "ToffeeTown" "ruleCount" "I") ∈ gtbl := gm_t (gi_2 (List.mem_of_getElem? (i := 107) (by decide +kernel))) rfl
theorem tw_463 : (Cond.fieldLink "ToffeeTown" 41 "ToffeeTown" "scene" "LToffeeTown$Scene;") ∈ gtbl := gm_t (gi_2 (List.mem_of_getElem? (i := 108) (by decide +kernel))) rfl
theorem tw_464 : (Cond.fieldLink "ToffeeTown" 45 "ToffeeTown" "images" "[LToffeeTown$Scene;") ∈ gtbl := gm_t (gi_2 (List.mem_of_getElem? (i := 109) (by decide +kernel))) rfl
theorem tw_465 : (Cond.fieldLink "ToffeeTown" 58 "ToffeeTown" "days" "LToffeeTown$Days;") ∈ gtbl := gm_t (gi_2 (List.mem_of_getElem? (i := 110) (by decide +kernel))) rfl
theorem tw_466 : (Cond.fieldLink "ToffeeTown" 65 "ToffeeTown" "spare" "LToffeeTown$Standing;") ∈ gtbl := gm_t (gi_2 (List.mem_of_getElem? (i := 111) (by decide +kernel))) rfl
theorem tw_467 : (Cond.fieldLink "ToffeeTown" 69 "ToffeeTown" "comesDown" "[I") ∈ gtbl := gm_t (gi_2 (List.mem_of_getElem? (i := 112) (by decide +kernel))) rfl
theorem tw_468 : (Cond.fieldLink "ToffeeTown" 78 "ToffeeTown" "rows" "LToffeeTown$Rows;") ∈ gtbl := gm_t (gi_2 (List.mem_of_getElem? (i := 113) (by decide +kernel))) rfl
theorem tw_469 : (Cond.fieldLink "ToffeeTown" 85 "ToffeeTown" "resting" "LToffeeTown$Rests;") ∈ gtbl := gm_t (gi_2 (List.mem_of_getElem? (i := 114) (by decide +kernel))) rfl
theorem tw_470 : (Cond.fieldLink "ToffeeTown" 92 "ToffeeTown" "candidates" "LToffeeTown$Candidates;") ∈ gtbl := gm_t (gi_2 (List.mem_of_getElem? (i := 115) (by decide +kernel))) rfl
theorem tw_498 : (Cond.methodLink "ToffeeTownLaw" 13 yX11_feed) ∈ gtbl := gm_t (gi_2 (List.mem_of_getElem? (i := 143) (by decide +kernel))) rfl
theorem tw_499 : (Cond.instanceMethod yX11_feed) ∈ gtbl := gm_t (gi_2 (List.mem_of_getElem? (i := 144) (by decide +kernel))) rfl
theorem tw_500 : (Cond.selects "ToffeeTown" yX11_feed yX11_feed) ∈ gtbl := gm_t (gi_2 (List.mem_of_getElem? (i := 145) (by decide +kernel))) rfl
theorem tw_501 : (Cond.code yX11_feed prog_1_method_2_code 6 (some FieldType.int)) ∈ gtbl := gm_t (gi_2 (List.mem_of_getElem? (i := 146) (by decide +kernel))) rfl
theorem tw_502 : (Cond.methodLink "ToffeeTown" 100 yX8_append) ∈ gtbl := gm_t (gi_2 (List.mem_of_getElem? (i := 147) (by decide +kernel))) rfl
theorem tw_503 : (Cond.instanceMethod yX8_append) ∈ gtbl := gm_t (gi_2 (List.mem_of_getElem? (i := 148) (by decide +kernel))) rfl
theorem tw_504 : (Cond.selects "ToffeeTown$Text" yX8_append yX8_append) ∈ gtbl := gm_t (gi_2 (List.mem_of_getElem? (i := 149) (by decide +kernel))) rfl
theorem tw_505 : (Cond.code yX8_append prog_10_method_2_code 3 none) ∈ gtbl := gm_t (gi_2 (List.mem_of_getElem? (i := 150) (by decide +kernel))) rfl
theorem tw_506 : (Cond.methodLink "ToffeeTownLaw" 18 yX11_end) ∈ gtbl := gm_t (gi_2 (List.mem_of_getElem? (i := 151) (by decide +kernel))) rfl
theorem tw_507 : (Cond.instanceMethod yX11_end) ∈ gtbl := gm_t (gi_2 (List.mem_of_getElem? (i := 152) (by decide +kernel))) rfl
theorem tw_508 : (Cond.selects "ToffeeTown" yX11_end yX11_end) ∈ gtbl := gm_t (gi_2 (List.mem_of_getElem? (i := 153) (by decide +kernel))) rfl
theorem tw_509 : (Cond.code yX11_end prog_1_method_3_code 2 (some FieldType.int)) ∈ gtbl := gm_t (gi_2 (List.mem_of_getElem? (i := 154) (by decide +kernel))) rfl
theorem tw_510 : (Cond.methodLink "ToffeeTownLaw" 23 yX11_town) ∈ gtbl := gm_t (gi_2 (List.mem_of_getElem? (i := 155) (by decide +kernel))) rfl
theorem tw_511 : (Cond.instanceMethod yX11_town) ∈ gtbl := gm_t (gi_2 (List.mem_of_getElem? (i := 156) (by decide +kernel))) rfl
theorem tw_512 : (Cond.selects "ToffeeTown" yX11_town yX11_town) ∈ gtbl := gm_t (gi_2 (List.mem_of_getElem? (i := 157) (by decide +kernel))) rfl
theorem tw_513 : (Cond.code yX11_town prog_1_method_4_code 2 (some FieldType.int)) ∈ gtbl := gm_t (gi_2 (List.mem_of_getElem? (i := 158) (by decide +kernel))) rfl
theorem tw_514 : (Cond.methodLink "ToffeeTown" 104 yX10_readText) ∈ gtbl := gm_t (gi_2 (List.mem_of_getElem? (i := 159) (by decide +kernel))) rfl
theorem tw_515 : (Cond.instanceMethod yX10_readText) ∈ gtbl := gm_t (gi_2 (List.mem_of_getElem? (i := 160) (by decide +kernel))) rfl
theorem tw_516 : (Cond.selects "ToffeeTown$TownReader" yX10_readText yX10_readText) ∈ gtbl := gm_t (gi_2 (List.mem_of_getElem? (i := 161) (by decide +kernel))) rfl
theorem tw_517 : (Cond.code yX10_readText prog_12_method_2_code 2 (some FieldType.boolean)) ∈ gtbl := gm_t (gi_2 (List.mem_of_getElem? (i := 162) (by decide +kernel))) rfl
theorem tw_518 : (Cond.methodLink "ToffeeTown$TownReader" 22 yX9_clear) ∈ gtbl := gm_t (gi_2 (List.mem_of_getElem? (i := 163) (by decide +kernel))) rfl
theorem tw_519 : (Cond.instanceMethod yX9_clear) ∈ gtbl := gm_t (gi_2 (List.mem_of_getElem? (i := 164) (by decide +kernel))) rfl
theorem tw_520 : (Cond.selects "ToffeeTown$Town" yX9_clear yX9_clear) ∈ gtbl := gm_t (gi_2 (List.mem_of_getElem? (i := 165) (by decide +kernel))) rfl
theorem tw_521 : (Cond.code yX9_clear prog_11_method_2_code 1 none) ∈ gtbl := gm_t (gi_2 (List.mem_of_getElem? (i := 166) (by decide +kernel))) rfl
theorem tw_522 : (Cond.methodLink "ToffeeTown$Town" 35 yX7_clear) ∈ gtbl := gm_t (gi_2 (List.mem_of_getElem? (i := 167) (by decide +kernel))) rfl
theorem tw_523 : (Cond.instanceMethod yX7_clear) ∈ gtbl := gm_t (gi_2 (List.mem_of_getElem? (i := 168) (by decide +kernel))) rfl
theorem tw_524 : (Cond.selects "ToffeeTown$Standing" yX7_clear yX7_clear) ∈ gtbl := gm_t (gi_2 (List.mem_of_getElem? (i := 169) (by decide +kernel))) rfl
theorem tw_525 : (Cond.code yX7_clear prog_9_method_2_code 1 none) ∈ gtbl := gm_t (gi_2 (List.mem_of_getElem? (i := 170) (by decide +kernel))) rfl
theorem tw_526 : (Cond.methodLink "ToffeeTown$Standing" 31 yJ7_fill_53178) ∈ gtbl := gm_t (gi_2 (List.mem_of_getElem? (i := 171) (by decide +kernel))) rfl
theorem tw_527 : (Cond.static yJ7_fill_53178) ∈ gtbl := gm_t (gi_2 (List.mem_of_getElem? (i := 172) (by decide +kernel))) rfl
theorem tw_528 : (Cond.code yJ7_fill_53178 prog_22_method_103_code 4 none) ∈ gtbl := gm_t (gi_2 (List.mem_of_getElem? (i := 173) (by decide +kernel))) rfl
theorem tw_529 : (Cond.methodLink "ToffeeTown$TownReader" 25 yX8_scan) ∈ gtbl := gm_t (gi_2 (List.mem_of_getElem? (i := 174) (by decide +kernel))) rfl
theorem tw_530 : (Cond.instanceMethod yX8_scan) ∈ gtbl := gm_t (gi_2 (List.mem_of_getElem? (i := 175) (by decide +kernel))) rfl
theorem tw_531 : (Cond.selects "ToffeeTown$Text" yX8_scan yX8_scan) ∈ gtbl := gm_t (gi_2 (List.mem_of_getElem? (i := 176) (by decide +kernel))) rfl
theorem tw_532 : (Cond.code yX8_scan prog_10_method_3_code 3 none) ∈ gtbl := gm_t (gi_2 (List.mem_of_getElem? (i := 177) (by decide +kernel))) rfl
theorem tw_533 : (Cond.methodLink "ToffeeTown$Text" 32 yX8_scanOne) ∈ gtbl := gm_t (gi_2 (List.mem_of_getElem? (i := 178) (by decide +kernel))) rfl
theorem tw_535 : (Cond.instanceMethod yX8_scanOne) ∈ gtbl := gm_t (gi_2 (List.mem_of_getElem? (i := 180) (by decide +kernel))) rfl
theorem tw_536 : (Cond.code yX8_scanOne prog_10_method_10_code 4 (some FieldType.int)) ∈ gtbl := gm_t (gi_2 (List.mem_of_getElem? (i := 181) (by decide +kernel))) rfl
theorem tw_537 : (Cond.methodLink "ToffeeTown$Text" 54 yX8_behindRun) ∈ gtbl := gm_t (gi_2 (List.mem_of_getElem? (i := 182) (by decide +kernel))) rfl
theorem tw_539 : (Cond.instanceMethod yX8_behindRun) ∈ gtbl := gm_t (gi_2 (List.mem_of_getElem? (i := 184) (by decide +kernel))) rfl
theorem tw_540 : (Cond.code yX8_behindRun prog_10_method_11_code 5 (some FieldType.int)) ∈ gtbl := gm_t (gi_2 (List.mem_of_getElem? (i := 185) (by decide +kernel))) rfl
theorem tw_541 : (Cond.methodLink "ToffeeTown$Text" 58 yX8_numberFrom) ∈ gtbl := gm_t (gi_2 (List.mem_of_getElem? (i := 186) (by decide +kernel))) rfl
theorem tw_543 : (Cond.instanceMethod yX8_numberFrom) ∈ gtbl := gm_t (gi_2 (List.mem_of_getElem? (i := 188) (by decide +kernel))) rfl
theorem tw_544 : (Cond.code yX8_numberFrom prog_10_method_12_code 5 (some FieldType.int)) ∈ gtbl := gm_t (gi_2 (List.mem_of_getElem? (i := 189) (by decide +kernel))) rfl
theorem tw_545 : (Cond.methodLink "ToffeeTown$Text" 36 yX8_add) ∈ gtbl := gm_t (gi_2 (List.mem_of_getElem? (i := 190) (by decide +kernel))) rfl
theorem tw_547 : (Cond.instanceMethod yX8_add) ∈ gtbl := gm_t (gi_2 (List.mem_of_getElem? (i := 192) (by decide +kernel))) rfl
theorem tw_548 : (Cond.code yX8_add prog_10_method_9_code 4 none) ∈ gtbl := gm_t (gi_2 (List.mem_of_getElem? (i := 193) (by decide +kernel))) rfl
theorem tw_549 : (Cond.methodLink "ToffeeTown$Text" 62 yX8_wordFrom) ∈ gtbl := gm_t (gi_2 (List.mem_of_getElem? (i := 194) (by decide +kernel))) rfl
theorem tw_551 : (Cond.instanceMethod yX8_wordFrom) ∈ gtbl := gm_t (gi_2 (List.mem_of_getElem? (i := 196) (by decide +kernel))) rfl
theorem tw_552 : (Cond.code yX8_wordFrom prog_10_method_13_code 4 (some FieldType.int)) ∈ gtbl := gm_t (gi_2 (List.mem_of_getElem? (i := 197) (by decide +kernel))) rfl
theorem tw_553 : (Cond.methodLink "ToffeeTown$Text" 68 yX8_wordOf) ∈ gtbl := gm_t (gi_2 (List.mem_of_getElem? (i := 198) (by decide +kernel))) rfl
theorem tw_554 : (Cond.static yX8_wordOf) ∈ gtbl := gm_t (gi_2 (List.mem_of_getElem? (i := 199) (by decide +kernel))) rfl
theorem tw_555 : (Cond.code yX8_wordOf prog_10_method_16_code 1 (some (FieldType.object "java/lang/String"))) ∈ gtbl := gm_t (gi_2 (List.mem_of_getElem? (i := 200) (by decide +kernel))) rfl
theorem tn_556 : (Cond.stringRef "ToffeeTown$Text" 85 "one") ∈ lw_tbl := List.mem_append_right _ (gi_2 (List.mem_of_getElem? (i := 201) (by decide +kernel)))
theorem tn_557 : (Cond.stringRef "ToffeeTown$Text" 87 "other") ∈ lw_tbl := List.mem_append_right _ (gi_2 (List.mem_of_getElem? (i := 202) (by decide +kernel)))
theorem tn_558 : (Cond.stringRef "ToffeeTown$Text" 89 "hard") ∈ lw_tbl := List.mem_append_right _ (gi_2 (List.mem_of_getElem? (i := 203) (by decide +kernel)))
theorem tn_559 : (Cond.stringRef "ToffeeTown$Text" 91 "place") ∈ lw_tbl := List.mem_append_right _ (gi_2 (List.mem_of_getElem? (i := 204) (by decide +kernel)))
theorem tn_560 : (Cond.stringRef "ToffeeTown$Text" 93 "placeo") ∈ lw_tbl := List.mem_append_right _ (gi_2 (List.mem_of_getElem? (i := 205) (by decide +kernel)))
theorem tn_561 : (Cond.stringRef "ToffeeTown$Text" 95 "apart") ∈ lw_tbl := List.mem_append_right _ (gi_2 (List.mem_of_getElem? (i := 206) (by decide +kernel)))
theorem tn_562 : (Cond.stringRef "ToffeeTown$Text" 97 "rock") ∈ lw_tbl := List.mem_append_right _ (gi_2 (List.mem_of_getElem? (i := 207) (by decide +kernel)))
theorem tn_563 : (Cond.stringRef "ToffeeTown$Text" 99 "rocko") ∈ lw_tbl := List.mem_append_right _ (gi_2 (List.mem_of_getElem? (i := 208) (by decide +kernel)))
theorem tn_564 : (Cond.stringRef "ToffeeTown$Text" 101 "heat") ∈ lw_tbl := List.mem_append_right _ (gi_2 (List.mem_of_getElem? (i := 209) (by decide +kernel)))
theorem tn_565 : (Cond.stringRef "ToffeeTown$Text" 103 "next") ∈ lw_tbl := List.mem_append_right _ (gi_2 (List.mem_of_getElem? (i := 210) (by decide +kernel)))
theorem tn_566 : (Cond.stringRef "ToffeeTown$Text" 105 "sugar") ∈ lw_tbl := List.mem_append_right _ (gi_2 (List.mem_of_getElem? (i := 211) (by decide +kernel)))
theorem tn_567 : (Cond.stringRef "ToffeeTown$Text" 107 "day") ∈ lw_tbl := List.mem_append_right _ (gi_2 (List.mem_of_getElem? (i := 212) (by decide +kernel)))
theorem tn_568 : (Cond.stringRef "ToffeeTown$Text" 109 "town") ∈ lw_tbl := List.mem_append_right _ (gi_2 (List.mem_of_getElem? (i := 213) (by decide +kernel)))
theorem tn_569 : (Cond.stringRef "ToffeeTown$Text" 111 "house") ∈ lw_tbl := List.mem_append_right _ (gi_2 (List.mem_of_getElem? (i := 214) (by decide +kernel)))
theorem tn_570 : (Cond.stringRef "ToffeeTown$Text" 113 "join") ∈ lw_tbl := List.mem_append_right _ (gi_2 (List.mem_of_getElem? (i := 215) (by decide +kernel)))
theorem tn_571 : (Cond.stringRef "ToffeeTown$Text" 115 "pour") ∈ lw_tbl := List.mem_append_right _ (gi_2 (List.mem_of_getElem? (i := 216) (by decide +kernel)))
theorem tn_572 : (Cond.stringRef "ToffeeTown$Text" 117 "if") ∈ lw_tbl := List.mem_append_right _ (gi_2 (List.mem_of_getElem? (i := 217) (by decide +kernel)))
theorem tn_573 : (Cond.stringRef "ToffeeTown$Text" 119 "or") ∈ lw_tbl := List.mem_append_right _ (gi_2 (List.mem_of_getElem? (i := 218) (by decide +kernel)))
theorem tn_574 : (Cond.stringRef "ToffeeTown$Text" 121 "and") ∈ lw_tbl := List.mem_append_right _ (gi_2 (List.mem_of_getElem? (i := 219) (by decide +kernel)))
theorem tn_575 : (Cond.stringRef "ToffeeTown$Text" 123 "not") ∈ lw_tbl := List.mem_append_right _ (gi_2 (List.mem_of_getElem? (i := 220) (by decide +kernel)))
theorem tw_576 : (Cond.methodLink "ToffeeTown$Text" 72 yX8_isWord) ∈ gtbl := gm_t (gi_2 (List.mem_of_getElem? (i := 221) (by decide +kernel))) rfl
theorem tw_578 : (Cond.instanceMethod yX8_isWord) ∈ gtbl := gm_t (gi_2 (List.mem_of_getElem? (i := 223) (by decide +kernel))) rfl
theorem tw_579 : (Cond.code yX8_isWord prog_10_method_14_code 5 (some FieldType.boolean)) ∈ gtbl := gm_t (gi_2 (List.mem_of_getElem? (i := 224) (by decide +kernel))) rfl
theorem tw_580 : (Cond.methodLink "ToffeeTown$Text" 76 yJ0_length_8abf5) ∈ gtbl := gm_t (gi_2 (List.mem_of_getElem? (i := 225) (by decide +kernel))) rfl
theorem tw_581 : (Cond.instanceMethod yJ0_length_8abf5) ∈ gtbl := gm_t (gi_2 (List.mem_of_getElem? (i := 226) (by decide +kernel))) rfl
theorem tw_582 : (Cond.selects "java/lang/String" yJ0_length_8abf5 yJ0_length_8abf5) ∈ gtbl := gm_t (gi_2 (List.mem_of_getElem? (i := 227) (by decide +kernel))) rfl
theorem tw_583 : (Cond.code yJ0_length_8abf5 prog_18_method_54_code 1 (some FieldType.int)) ∈ gtbl := gm_t (gi_2 (List.mem_of_getElem? (i := 228) (by decide +kernel))) rfl
theorem tw_584 : (Cond.methodLink "java/lang/String" 335 yJ0_coder_7d493) ∈ gtbl := gm_t (gi_2 (List.mem_of_getElem? (i := 229) (by decide +kernel))) rfl
theorem tw_585 : (Cond.instanceMethod yJ0_coder_7d493) ∈ gtbl := gm_t (gi_2 (List.mem_of_getElem? (i := 230) (by decide +kernel))) rfl
theorem tw_586 : (Cond.selects "java/lang/String" yJ0_coder_7d493 yJ0_coder_7d493) ∈ gtbl := gm_t (gi_2 (List.mem_of_getElem? (i := 231) (by decide +kernel))) rfl
theorem tw_587 : (Cond.code yJ0_coder_7d493 prog_18_method_152_code 1 (some FieldType.byte)) ∈ gtbl := gm_t (gi_2 (List.mem_of_getElem? (i := 232) (by decide +kernel))) rfl
theorem tw_588 : (Cond.fieldLink "java/lang/String" 38 "java/lang/String" "COMPACT_STRINGS" "Z") ∈ gtbl := gm_t (gi_2 (List.mem_of_getElem? (i := 233) (by decide +kernel))) rfl
theorem tw_590 : (Cond.methodLink "ToffeeTown$Text" 81 yJ0_charAt_5068e) ∈ gtbl := gm_t (gi_2 (List.mem_of_getElem? (i := 235) (by decide +kernel))) rfl
theorem tw_591 : (Cond.instanceMethod yJ0_charAt_5068e) ∈ gtbl := gm_t (gi_2 (List.mem_of_getElem? (i := 236) (by decide +kernel))) rfl
theorem tw_592 : (Cond.selects "java/lang/String" yJ0_charAt_5068e yJ0_charAt_5068e) ∈ gtbl := gm_t (gi_2 (List.mem_of_getElem? (i := 237) (by decide +kernel))) rfl
theorem tw_593 : (Cond.code yJ0_charAt_5068e prog_18_method_56_code 2 (some FieldType.char)) ∈ gtbl := gm_t (gi_2 (List.mem_of_getElem? (i := 238) (by decide +kernel))) rfl
theorem tw_594 : (Cond.methodLink "java/lang/String" 492 yJ0_isLatin1_aae02) ∈ gtbl := gm_t (gi_2 (List.mem_of_getElem? (i := 239) (by decide +kernel))) rfl
theorem tw_595 : (Cond.instanceMethod yJ0_isLatin1_aae02) ∈ gtbl := gm_t (gi_3 (List.mem_of_getElem? (i := 0) (by decide +kernel))) rfl
theorem tw_596 : (Cond.selects "java/lang/String" yJ0_isLatin1_aae02 yJ0_isLatin1_aae02) ∈ gtbl := gm_t (gi_3 (List.mem_of_getElem? (i := 1) (by decide +kernel))) rfl
theorem tw_597 : (Cond.code yJ0_isLatin1_aae02 prog_18_method_154_code 1 (some FieldType.boolean)) ∈ gtbl := gm_t (gi_3 (List.mem_of_getElem? (i := 2) (by decide +kernel))) rfl
theorem tw_598 : (Cond.methodLink "java/lang/String" 495 yJ1_charAt_3b067) ∈ gtbl := gm_t (gi_3 (List.mem_of_getElem? (i := 3) (by decide +kernel))) rfl
theorem tw_599 : (Cond.static yJ1_charAt_3b067) ∈ gtbl := gm_t (gi_3 (List.mem_of_getElem? (i := 4) (by decide +kernel))) rfl
theorem tw_600 : (Cond.code yJ1_charAt_3b067 prog_19_method_2_code 2 (some FieldType.char)) ∈ gtbl := gm_t (gi_3 (List.mem_of_getElem? (i := 5) (by decide +kernel))) rfl
theorem tw_601 : (Cond.methodLink "java/lang/StringLatin1" 9 yJ0_checkIndex_df160) ∈ gtbl := gm_t (gi_3 (List.mem_of_getElem? (i := 6) (by decide +kernel))) rfl
theorem tw_602 : (Cond.static yJ0_checkIndex_df160) ∈ gtbl := gm_t (gi_3 (List.mem_of_getElem? (i := 7) (by decide +kernel))) rfl
theorem tw_603 : (Cond.code yJ0_checkIndex_df160 prog_18_method_155_code 2 none) ∈ gtbl := gm_t (gi_3 (List.mem_of_getElem? (i := 8) (by decide +kernel))) rfl
theorem tw_604 : (Cond.fieldLink "java/lang/String" 1053 "jdk/internal/util/Preconditions" "SIOOBE_FORMATTER" "Ljava/util/function/BiFunction;") ∈ gtbl := gm_t (gi_3 (List.mem_of_getElem? (i := 9) (by decide +kernel))) rfl
theorem tw_606 : (Cond.methodLink "java/lang/String" 1059 yJ3_checkIndex_8e157) ∈ gtbl := gm_t (gi_3 (List.mem_of_getElem? (i := 11) (by decide +kernel))) rfl
theorem tw_607 : (Cond.static yJ3_checkIndex_8e157) ∈ gtbl := gm_t (gi_3 (List.mem_of_getElem? (i := 12) (by decide +kernel))) rfl
theorem tw_608 : (Cond.code yJ3_checkIndex_8e157 prog_23_method_11_code 3 (some FieldType.int)) ∈ gtbl := gm_t (gi_3 (List.mem_of_getElem? (i := 13) (by decide +kernel))) rfl
theorem tw_609 : (Cond.methodLink "java/lang/String" 498 yJ2_charAt_3b067) ∈ gtbl := gm_t (gi_3 (List.mem_of_getElem? (i := 14) (by decide +kernel))) rfl
theorem tw_610 : (Cond.static yJ2_charAt_3b067) ∈ gtbl := gm_t (gi_3 (List.mem_of_getElem? (i := 15) (by decide +kernel))) rfl
theorem tw_611 : (Cond.code yJ2_charAt_3b067 prog_20_method_83_code 2 (some FieldType.char)) ∈ gtbl := gm_t (gi_3 (List.mem_of_getElem? (i := 16) (by decide +kernel))) rfl
theorem tw_612 : (Cond.methodLink "java/lang/StringUTF16" 67 yJ2_checkIndex_2214a) ∈ gtbl := gm_t (gi_3 (List.mem_of_getElem? (i := 17) (by decide +kernel))) rfl
theorem tw_613 : (Cond.static yJ2_checkIndex_2214a) ∈ gtbl := gm_t (gi_3 (List.mem_of_getElem? (i := 18) (by decide +kernel))) rfl
theorem tw_614 : (Cond.code yJ2_checkIndex_2214a prog_20_method_91_code 2 none) ∈ gtbl := gm_t (gi_3 (List.mem_of_getElem? (i := 19) (by decide +kernel))) rfl
theorem tw_615 : (Cond.methodLink "java/lang/StringUTF16" 48 yJ2_length_9d52b) ∈ gtbl := gm_t (gi_3 (List.mem_of_getElem? (i := 20) (by decide +kernel))) rfl
theorem tw_616 : (Cond.static yJ2_length_9d52b) ∈ gtbl := gm_t (gi_3 (List.mem_of_getElem? (i := 21) (by decide +kernel))) rfl
theorem tw_617 : (Cond.code yJ2_length_9d52b prog_20_method_6_code 1 (some FieldType.int)) ∈ gtbl := gm_t (gi_3 (List.mem_of_getElem? (i := 22) (by decide +kernel))) rfl
theorem tw_618 : (Cond.methodLink "java/lang/StringUTF16" 414 yJ0_checkIndex_df160) ∈ gtbl := gm_t (gi_3 (List.mem_of_getElem? (i := 23) (by decide +kernel))) rfl
theorem tw_619 : (Cond.methodLink "java/lang/StringUTF16" 71 yJ2_getChar_3b067) ∈ gtbl := gm_t (gi_3 (List.mem_of_getElem? (i := 24) (by decide +kernel))) rfl
theorem tw_620 : (Cond.static yJ2_getChar_3b067) ∈ gtbl := gm_t (gi_3 (List.mem_of_getElem? (i := 25) (by decide +kernel))) rfl
theorem tw_621 : (Cond.code yJ2_getChar_3b067 prog_20_method_5_code 2 (some FieldType.char)) ∈ gtbl := gm_t (gi_3 (List.mem_of_getElem? (i := 26) (by decide +kernel))) rfl
theorem tw_622 : (Cond.fieldLink "java/lang/StringUTF16" 44 "java/lang/StringUTF16" "$assertionsDisabled" "Z") ∈ gtbl := gm_t (gi_3 (List.mem_of_getElem? (i := 27) (by decide +kernel))) rfl
theorem tw_624 : (Cond.fieldLink "java/lang/StringUTF16" 59 "java/lang/StringUTF16" "HI_BYTE_SHIFT" "I") ∈ gtbl := gm_t (gi_3 (List.mem_of_getElem? (i := 29) (by decide +kernel))) rfl
theorem tw_626 : (Cond.fieldLink "java/lang/StringUTF16" 63 "java/lang/StringUTF16" "LO_BYTE_SHIFT" "I") ∈ gtbl := gm_t (gi_3 (List.mem_of_getElem? (i := 31) (by decide +kernel))) rfl
theorem tw_628 : (Cond.methodLink "ToffeeTown$Text" 65 yX8_signAt) ∈ gtbl := gm_t (gi_3 (List.mem_of_getElem? (i := 33) (by decide +kernel))) rfl
theorem tw_630 : (Cond.instanceMethod yX8_signAt) ∈ gtbl := gm_t (gi_3 (List.mem_of_getElem? (i := 35) (by decide +kernel))) rfl
theorem tw_631 : (Cond.code yX8_signAt prog_10_method_15_code 3 (some FieldType.int)) ∈ gtbl := gm_t (gi_3 (List.mem_of_getElem? (i := 36) (by decide +kernel))) rfl
theorem tw_632 : (Cond.methodLink "ToffeeTown$TownReader" 30 yX10_readClause) ∈ gtbl := gm_t (gi_3 (List.mem_of_getElem? (i := 37) (by decide +kernel))) rfl
theorem tw_634 : (Cond.instanceMethod yX10_readClause) ∈ gtbl := gm_t (gi_3 (List.mem_of_getElem? (i := 39) (by decide +kernel))) rfl
theorem tw_635 : (Cond.code yX10_readClause prog_12_method_3_code 3 (some FieldType.boolean)) ∈ gtbl := gm_t (gi_3 (List.mem_of_getElem? (i := 40) (by decide +kernel))) rfl
theorem tw_636 : (Cond.methodLink "ToffeeTown$TownReader" 34 yX8_code) ∈ gtbl := gm_t (gi_3 (List.mem_of_getElem? (i := 41) (by decide +kernel))) rfl
theorem tw_637 : (Cond.instanceMethod yX8_code) ∈ gtbl := gm_t (gi_3 (List.mem_of_getElem? (i := 42) (by decide +kernel))) rfl
theorem tw_638 : (Cond.selects "ToffeeTown$Text" yX8_code yX8_code) ∈ gtbl := gm_t (gi_3 (List.mem_of_getElem? (i := 43) (by decide +kernel))) rfl
theorem tw_639 : (Cond.code yX8_code prog_10_method_4_code 1 (some FieldType.int)) ∈ gtbl := gm_t (gi_3 (List.mem_of_getElem? (i := 44) (by decide +kernel))) rfl
theorem tw_640 : (Cond.methodLink "ToffeeTown$TownReader" 44 yX8_fail) ∈ gtbl := gm_t (gi_3 (List.mem_of_getElem? (i := 45) (by decide +kernel))) rfl
theorem tw_641 : (Cond.instanceMethod yX8_fail) ∈ gtbl := gm_t (gi_3 (List.mem_of_getElem? (i := 46) (by decide +kernel))) rfl
theorem tw_642 : (Cond.selects "ToffeeTown$Text" yX8_fail yX8_fail) ∈ gtbl := gm_t (gi_3 (List.mem_of_getElem? (i := 47) (by decide +kernel))) rfl
theorem tw_643 : (Cond.code yX8_fail prog_10_method_8_code 3 (some FieldType.boolean)) ∈ gtbl := gm_t (gi_3 (List.mem_of_getElem? (i := 48) (by decide +kernel))) rfl
theorem tw_644 : (Cond.methodLink "ToffeeTown$TownReader" 47 yX10_isFull) ∈ gtbl := gm_t (gi_3 (List.mem_of_getElem? (i := 49) (by decide +kernel))) rfl
theorem tw_646 : (Cond.instanceMethod yX10_isFull) ∈ gtbl := gm_t (gi_3 (List.mem_of_getElem? (i := 51) (by decide +kernel))) rfl
theorem tw_647 : (Cond.code yX10_isFull prog_12_method_4_code 2 (some FieldType.boolean)) ∈ gtbl := gm_t (gi_3 (List.mem_of_getElem? (i := 52) (by decide +kernel))) rfl
theorem tw_648 : (Cond.methodLink "ToffeeTown$TownReader" 41 yX8_skip) ∈ gtbl := gm_t (gi_3 (List.mem_of_getElem? (i := 53) (by decide +kernel))) rfl
theorem tw_649 : (Cond.instanceMethod yX8_skip) ∈ gtbl := gm_t (gi_3 (List.mem_of_getElem? (i := 54) (by decide +kernel))) rfl
theorem tw_650 : (Cond.selects "ToffeeTown$Text" yX8_skip yX8_skip) ∈ gtbl := gm_t (gi_3 (List.mem_of_getElem? (i := 55) (by decide +kernel))) rfl
theorem tw_651 : (Cond.code yX8_skip prog_10_method_6_code 1 none) ∈ gtbl := gm_t (gi_3 (List.mem_of_getElem? (i := 56) (by decide +kernel))) rfl
theorem tw_652 : (Cond.methodLink "ToffeeTown$TownReader" 50 yX10_readHill) ∈ gtbl := gm_t (gi_3 (List.mem_of_getElem? (i := 57) (by decide +kernel))) rfl
theorem tw_654 : (Cond.instanceMethod yX10_readHill) ∈ gtbl := gm_t (gi_3 (List.mem_of_getElem? (i := 59) (by decide +kernel))) rfl
theorem tw_655 : (Cond.code yX10_readHill prog_12_method_5_code 1 (some FieldType.boolean)) ∈ gtbl := gm_t (gi_3 (List.mem_of_getElem? (i := 60) (by decide +kernel))) rfl
theorem tw_656 : (Cond.methodLink "ToffeeTown$TownReader" 73 yX10_readNumber) ∈ gtbl := gm_t (gi_3 (List.mem_of_getElem? (i := 61) (by decide +kernel))) rfl
theorem tw_658 : (Cond.instanceMethod yX10_readNumber) ∈ gtbl := gm_t (gi_3 (List.mem_of_getElem? (i := 63) (by decide +kernel))) rfl
theorem tw_659 : (Cond.code yX10_readNumber prog_12_method_10_code 4 (some FieldType.int)) ∈ gtbl := gm_t (gi_3 (List.mem_of_getElem? (i := 64) (by decide +kernel))) rfl
theorem tw_660 : (Cond.methodLink "ToffeeTown$TownReader" 99 yX8_number) ∈ gtbl := gm_t (gi_3 (List.mem_of_getElem? (i := 65) (by decide +kernel))) rfl
theorem tw_661 : (Cond.instanceMethod yX8_number) ∈ gtbl := gm_t (gi_3 (List.mem_of_getElem? (i := 66) (by decide +kernel))) rfl
theorem tw_662 : (Cond.selects "ToffeeTown$Text" yX8_number yX8_number) ∈ gtbl := gm_t (gi_3 (List.mem_of_getElem? (i := 67) (by decide +kernel))) rfl
theorem tw_663 : (Cond.code yX8_number prog_10_method_5_code 1 (some FieldType.int)) ∈ gtbl := gm_t (gi_3 (List.mem_of_getElem? (i := 68) (by decide +kernel))) rfl
theorem tn_664 : (Cond.methodLinkNest "ToffeeTown$TownReader" 109 yX11_isWithin "ToffeeTown") ∈ lw_tbl := List.mem_append_right _ (gi_3 (List.mem_of_getElem? (i := 69) (by decide +kernel)))
theorem tw_665 : (Cond.static yX11_isWithin) ∈ gtbl := gm_t (gi_3 (List.mem_of_getElem? (i := 70) (by decide +kernel))) rfl
theorem tw_666 : (Cond.code yX11_isWithin prog_1_method_39_code 3 (some FieldType.boolean)) ∈ gtbl := gm_t (gi_3 (List.mem_of_getElem? (i := 71) (by decide +kernel))) rfl
theorem tw_667 : (Cond.methodLink "ToffeeTown$TownReader" 54 yX10_readHeat) ∈ gtbl := gm_t (gi_3 (List.mem_of_getElem? (i := 72) (by decide +kernel))) rfl
theorem tw_669 : (Cond.instanceMethod yX10_readHeat) ∈ gtbl := gm_t (gi_3 (List.mem_of_getElem? (i := 74) (by decide +kernel))) rfl
theorem tw_670 : (Cond.code yX10_readHeat prog_12_method_6_code 2 (some FieldType.boolean)) ∈ gtbl := gm_t (gi_3 (List.mem_of_getElem? (i := 75) (by decide +kernel))) rfl
theorem tw_671 : (Cond.methodLink "ToffeeTown$TownReader" 57 yX10_readHouse) ∈ gtbl := gm_t (gi_3 (List.mem_of_getElem? (i := 76) (by decide +kernel))) rfl
theorem tw_673 : (Cond.instanceMethod yX10_readHouse) ∈ gtbl := gm_t (gi_3 (List.mem_of_getElem? (i := 78) (by decide +kernel))) rfl
theorem tw_674 : (Cond.code yX10_readHouse prog_12_method_7_code 2 (some FieldType.boolean)) ∈ gtbl := gm_t (gi_3 (List.mem_of_getElem? (i := 79) (by decide +kernel))) rfl
theorem tw_675 : (Cond.methodLink "ToffeeTown$TownReader" 60 yX10_readJoin) ∈ gtbl := gm_t (gi_3 (List.mem_of_getElem? (i := 80) (by decide +kernel))) rfl
theorem tw_677 : (Cond.instanceMethod yX10_readJoin) ∈ gtbl := gm_t (gi_3 (List.mem_of_getElem? (i := 82) (by decide +kernel))) rfl
theorem tw_678 : (Cond.code yX10_readJoin prog_12_method_8_code 4 (some FieldType.boolean)) ∈ gtbl := gm_t (gi_3 (List.mem_of_getElem? (i := 83) (by decide +kernel))) rfl
theorem tw_679 : (Cond.methodLink "ToffeeTown$TownReader" 102 yX7_setHard) ∈ gtbl := gm_t (gi_3 (List.mem_of_getElem? (i := 84) (by decide +kernel))) rfl
theorem tw_680 : (Cond.instanceMethod yX7_setHard) ∈ gtbl := gm_t (gi_3 (List.mem_of_getElem? (i := 85) (by decide +kernel))) rfl
theorem tw_681 : (Cond.selects "ToffeeTown$Standing" yX7_setHard yX7_setHard) ∈ gtbl := gm_t (gi_3 (List.mem_of_getElem? (i := 86) (by decide +kernel))) rfl
theorem tw_682 : (Cond.code yX7_setHard prog_9_method_5_code 4 none) ∈ gtbl := gm_t (gi_3 (List.mem_of_getElem? (i := 87) (by decide +kernel))) rfl
theorem tw_683 : (Cond.methodLink "ToffeeTown$TownReader" 63 yX10_readRock) ∈ gtbl := gm_t (gi_3 (List.mem_of_getElem? (i := 88) (by decide +kernel))) rfl
theorem tw_685 : (Cond.instanceMethod yX10_readRock) ∈ gtbl := gm_t (gi_3 (List.mem_of_getElem? (i := 90) (by decide +kernel))) rfl
theorem tw_686 : (Cond.code yX10_readRock prog_12_method_9_code 3 (some FieldType.boolean)) ∈ gtbl := gm_t (gi_3 (List.mem_of_getElem? (i := 91) (by decide +kernel))) rfl
theorem tw_687 : (Cond.methodLink "ToffeeTown$TownReader" 38 yX8_take) ∈ gtbl := gm_t (gi_3 (List.mem_of_getElem? (i := 92) (by decide +kernel))) rfl
theorem tw_688 : (Cond.instanceMethod yX8_take) ∈ gtbl := gm_t (gi_3 (List.mem_of_getElem? (i := 93) (by decide +kernel))) rfl
theorem tw_689 : (Cond.selects "ToffeeTown$Text" yX8_take yX8_take) ∈ gtbl := gm_t (gi_3 (List.mem_of_getElem? (i := 94) (by decide +kernel))) rfl
theorem tw_690 : (Cond.code yX8_take prog_10_method_7_code 2 (some FieldType.boolean)) ∈ gtbl := gm_t (gi_3 (List.mem_of_getElem? (i := 95) (by decide +kernel))) rfl
theorem tw_691 : (Cond.methodLink "ToffeeTown$Text" 46 yX8_code) ∈ gtbl := gm_t (gi_3 (List.mem_of_getElem? (i := 96) (by decide +kernel))) rfl
theorem tw_692 : (Cond.methodLink "ToffeeTown$Text" 50 yX8_fail) ∈ gtbl := gm_t (gi_3 (List.mem_of_getElem? (i := 97) (by decide +kernel))) rfl
theorem tw_693 : (Cond.methodLink "ToffeeTown" 114 yX6_open) ∈ gtbl := gm_t (gi_3 (List.mem_of_getElem? (i := 98) (by decide +kernel))) rfl
theorem tw_694 : (Cond.instanceMethod yX6_open) ∈ gtbl := gm_t (gi_3 (List.mem_of_getElem? (i := 99) (by decide +kernel))) rfl
theorem tw_695 : (Cond.selects "ToffeeTown$Scene" yX6_open yX6_open) ∈ gtbl := gm_t (gi_3 (List.mem_of_getElem? (i := 100) (by decide +kernel))) rfl
theorem tw_696 : (Cond.code yX6_open prog_8_method_2_code 2 none) ∈ gtbl := gm_t (gi_3 (List.mem_of_getElem? (i := 101) (by decide +kernel))) rfl
theorem tw_697 : (Cond.methodLink "ToffeeTown$Scene" 43 yX9_copy) ∈ gtbl := gm_t (gi_3 (List.mem_of_getElem? (i := 102) (by decide +kernel))) rfl
theorem tw_698 : (Cond.instanceMethod yX9_copy) ∈ gtbl := gm_t (gi_3 (List.mem_of_getElem? (i := 103) (by decide +kernel))) rfl
theorem tw_699 : (Cond.selects "ToffeeTown$Town" yX9_copy yX9_copy) ∈ gtbl := gm_t (gi_3 (List.mem_of_getElem? (i := 104) (by decide +kernel))) rfl
theorem tw_700 : (Cond.code yX9_copy prog_11_method_3_code 2 none) ∈ gtbl := gm_t (gi_3 (List.mem_of_getElem? (i := 105) (by decide +kernel))) rfl
theorem tw_701 : (Cond.methodLink "ToffeeTown$Town" 38 ⟨"java/lang/System", "arraycopy", "(Ljava/lang/Object;ILjava/lang/Object;II)V"⟩) ∈ gtbl := gm_t (gi_3 (List.mem_of_getElem? (i := 106) (by decide +kernel))) rfl
theorem tw_702 : (Cond.static ⟨"java/lang/System", "arraycopy", "(Ljava/lang/Object;ILjava/lang/Object;II)V"⟩) ∈ gtbl := gm_t (gi_3 (List.mem_of_getElem? (i := 107) (by decide +kernel))) rfl
theorem tw_703 : (Cond.native ⟨"java/lang/System", "arraycopy", "(Ljava/lang/Object;ILjava/lang/Object;II)V"⟩) ∈ gtbl := gm_t (gi_3 (List.mem_of_getElem? (i := 108) (by decide +kernel))) rfl
theorem tw_704 : (Cond.methodLink "ToffeeTown$Town" 44 yX7_copy) ∈ gtbl := gm_t (gi_3 (List.mem_of_getElem? (i := 109) (by decide +kernel))) rfl
theorem tw_705 : (Cond.instanceMethod yX7_copy) ∈ gtbl := gm_t (gi_3 (List.mem_of_getElem? (i := 110) (by decide +kernel))) rfl
theorem tw_706 : (Cond.selects "ToffeeTown$Standing" yX7_copy yX7_copy) ∈ gtbl := gm_t (gi_3 (List.mem_of_getElem? (i := 111) (by decide +kernel))) rfl
theorem tw_707 : (Cond.code yX7_copy prog_9_method_3_code 2 none) ∈ gtbl := gm_t (gi_3 (List.mem_of_getElem? (i := 112) (by decide +kernel))) rfl
theorem tw_708 : (Cond.methodLink "ToffeeTown$Standing" 37 ⟨"java/lang/System", "arraycopy", "(Ljava/lang/Object;ILjava/lang/Object;II)V"⟩) ∈ gtbl := gm_t (gi_3 (List.mem_of_getElem? (i := 113) (by decide +kernel))) rfl
theorem tw_709 : (Cond.methodLink "ToffeeTown$Scene" 50 yX7_copy) ∈ gtbl := gm_t (gi_3 (List.mem_of_getElem? (i := 114) (by decide +kernel))) rfl
theorem tw_710 : (Cond.methodLink "ToffeeTownLaw" 28 yX11_rule) ∈ gtbl := gm_t (gi_3 (List.mem_of_getElem? (i := 115) (by decide +kernel))) rfl
theorem tw_711 : (Cond.instanceMethod yX11_rule) ∈ gtbl := gm_t (gi_3 (List.mem_of_getElem? (i := 116) (by decide +kernel))) rfl
theorem tw_712 : (Cond.selects "ToffeeTown" yX11_rule yX11_rule) ∈ gtbl := gm_t (gi_3 (List.mem_of_getElem? (i := 117) (by decide +kernel))) rfl
theorem tw_713 : (Cond.code yX11_rule prog_1_method_5_code 2 (some FieldType.int)) ∈ gtbl := gm_t (gi_3 (List.mem_of_getElem? (i := 118) (by decide +kernel))) rfl
theorem tw_714 : (Cond.methodLink "ToffeeTown" 125 yX5_readText) ∈ gtbl := gm_t (gi_3 (List.mem_of_getElem? (i := 119) (by decide +kernel))) rfl
theorem tw_715 : (Cond.instanceMethod yX5_readText) ∈ gtbl := gm_t (gi_3 (List.mem_of_getElem? (i := 120) (by decide +kernel))) rfl
theorem tw_716 : (Cond.selects "ToffeeTown$RuleReader" yX5_readText yX5_readText) ∈ gtbl := gm_t (gi_3 (List.mem_of_getElem? (i := 121) (by decide +kernel))) rfl
theorem tw_717 : (Cond.code yX5_readText prog_7_method_2_code 2 (some FieldType.boolean)) ∈ gtbl := gm_t (gi_3 (List.mem_of_getElem? (i := 122) (by decide +kernel))) rfl
theorem tw_718 : (Cond.methodLink "ToffeeTown$RuleReader" 26 yX8_scan) ∈ gtbl := gm_t (gi_3 (List.mem_of_getElem? (i := 123) (by decide +kernel))) rfl
theorem tw_719 : (Cond.methodLink "ToffeeTown$RuleReader" 31 yX5_readClause) ∈ gtbl := gm_t (gi_3 (List.mem_of_getElem? (i := 124) (by decide +kernel))) rfl
theorem tw_721 : (Cond.instanceMethod yX5_readClause) ∈ gtbl := gm_t (gi_3 (List.mem_of_getElem? (i := 126) (by decide +kernel))) rfl
theorem tw_722 : (Cond.code yX5_readClause prog_7_method_4_code 2 (some FieldType.boolean)) ∈ gtbl := gm_t (gi_3 (List.mem_of_getElem? (i := 127) (by decide +kernel))) rfl
theorem tw_723 : (Cond.methodLink "ToffeeTown$RuleReader" 35 yX8_code) ∈ gtbl := gm_t (gi_3 (List.mem_of_getElem? (i := 128) (by decide +kernel))) rfl
theorem tw_724 : (Cond.methodLink "ToffeeTown$RuleReader" 45 yX8_fail) ∈ gtbl := gm_t (gi_3 (List.mem_of_getElem? (i := 129) (by decide +kernel))) rfl
theorem tw_725 : (Cond.methodLink "ToffeeTown$RuleReader" 42 yX8_skip) ∈ gtbl := gm_t (gi_3 (List.mem_of_getElem? (i := 130) (by decide +kernel))) rfl
theorem tw_726 : (Cond.methodLink "ToffeeTown$RuleReader" 54 yX5_readSum) ∈ gtbl := gm_t (gi_3 (List.mem_of_getElem? (i := 131) (by decide +kernel))) rfl
theorem tw_728 : (Cond.instanceMethod yX5_readSum) ∈ gtbl := gm_t (gi_3 (List.mem_of_getElem? (i := 133) (by decide +kernel))) rfl
theorem tw_729 : (Cond.code yX5_readSum prog_7_method_7_code 4 (some FieldType.boolean)) ∈ gtbl := gm_t (gi_3 (List.mem_of_getElem? (i := 134) (by decide +kernel))) rfl
theorem tw_730 : (Cond.methodLink "ToffeeTown$RuleReader" 72 yX5_readValue) ∈ gtbl := gm_t (gi_3 (List.mem_of_getElem? (i := 135) (by decide +kernel))) rfl
theorem tw_732 : (Cond.instanceMethod yX5_readValue) ∈ gtbl := gm_t (gi_3 (List.mem_of_getElem? (i := 137) (by decide +kernel))) rfl
theorem tw_733 : (Cond.code yX5_readValue prog_7_method_8_code 2 (some FieldType.boolean)) ∈ gtbl := gm_t (gi_3 (List.mem_of_getElem? (i := 138) (by decide +kernel))) rfl
theorem tn_734 : (Cond.methodLinkNest "ToffeeTown$RuleReader" 68 yX11_isWithin "ToffeeTown") ∈ lw_tbl := List.mem_append_right _ (gi_3 (List.mem_of_getElem? (i := 139) (by decide +kernel)))
theorem tw_735 : (Cond.methodLink "ToffeeTown$RuleReader" 75 yX8_number) ∈ gtbl := gm_t (gi_3 (List.mem_of_getElem? (i := 140) (by decide +kernel))) rfl
theorem tw_736 : (Cond.methodLink "ToffeeTown$RuleReader" 58 yX5_write) ∈ gtbl := gm_t (gi_3 (List.mem_of_getElem? (i := 141) (by decide +kernel))) rfl
theorem tw_738 : (Cond.instanceMethod yX5_write) ∈ gtbl := gm_t (gi_3 (List.mem_of_getElem? (i := 143) (by decide +kernel))) rfl
theorem tw_739 : (Cond.code yX5_write prog_7_method_9_code 3 (some FieldType.boolean)) ∈ gtbl := gm_t (gi_3 (List.mem_of_getElem? (i := 144) (by decide +kernel))) rfl
theorem tw_740 : (Cond.methodLink "ToffeeTown$RuleReader" 62 yX5_readTest) ∈ gtbl := gm_t (gi_3 (List.mem_of_getElem? (i := 145) (by decide +kernel))) rfl
theorem tw_742 : (Cond.instanceMethod yX5_readTest) ∈ gtbl := gm_t (gi_3 (List.mem_of_getElem? (i := 147) (by decide +kernel))) rfl
theorem tw_743 : (Cond.code yX5_readTest prog_7_method_5_code 5 (some FieldType.boolean)) ∈ gtbl := gm_t (gi_3 (List.mem_of_getElem? (i := 148) (by decide +kernel))) rfl
theorem tw_744 : (Cond.methodLink "ToffeeTown$RuleReader" 65 yX5_readFact) ∈ gtbl := gm_t (gi_3 (List.mem_of_getElem? (i := 149) (by decide +kernel))) rfl
theorem tw_746 : (Cond.instanceMethod yX5_readFact) ∈ gtbl := gm_t (gi_3 (List.mem_of_getElem? (i := 151) (by decide +kernel))) rfl
theorem tw_747 : (Cond.code yX5_readFact prog_7_method_6_code 4 (some FieldType.boolean)) ∈ gtbl := gm_t (gi_3 (List.mem_of_getElem? (i := 152) (by decide +kernel))) rfl
theorem tw_748 : (Cond.methodLink "ToffeeTown$RuleReader" 39 yX8_take) ∈ gtbl := gm_t (gi_3 (List.mem_of_getElem? (i := 153) (by decide +kernel))) rfl
theorem tw_749 : (Cond.instantiable "ToffeeTown$Rule" 2) ∈ gtbl := gm_t (gi_3 (List.mem_of_getElem? (i := 154) (by decide +kernel))) rfl
theorem tw_750 : (Cond.methodLink "ToffeeTown" 126 yX5_writtenSteps) ∈ gtbl := gm_t (gi_3 (List.mem_of_getElem? (i := 155) (by decide +kernel))) rfl
theorem tw_751 : (Cond.instanceMethod yX5_writtenSteps) ∈ gtbl := gm_t (gi_3 (List.mem_of_getElem? (i := 156) (by decide +kernel))) rfl
theorem tw_752 : (Cond.selects "ToffeeTown$RuleReader" yX5_writtenSteps yX5_writtenSteps) ∈ gtbl := gm_t (gi_3 (List.mem_of_getElem? (i := 157) (by decide +kernel))) rfl
theorem tw_753 : (Cond.code yX5_writtenSteps prog_7_method_3_code 1 (some (FieldType.array FieldType.int))) ∈ gtbl := gm_t (gi_3 (List.mem_of_getElem? (i := 158) (by decide +kernel))) rfl
theorem tw_754 : (Cond.methodLink "ToffeeTown$RuleReader" 48 yJ7_copyOf_59c91) ∈ gtbl := gm_t (gi_3 (List.mem_of_getElem? (i := 159) (by decide +kernel))) rfl
theorem tw_755 : (Cond.static yJ7_copyOf_59c91) ∈ gtbl := gm_t (gi_3 (List.mem_of_getElem? (i := 160) (by decide +kernel))) rfl
theorem tw_756 : (Cond.code yJ7_copyOf_59c91 prog_22_method_123_code 3 (some (FieldType.array FieldType.int))) ∈ gtbl := gm_t (gi_3 (List.mem_of_getElem? (i := 161) (by decide +kernel))) rfl
theorem tw_757 : (Cond.methodLink "java/util/Arrays" 316 ⟨"[I", "clone", "()Ljava/lang/Object;"⟩) ∈ gtbl := gm_t (gi_3 (List.mem_of_getElem? (i := 162) (by decide +kernel))) rfl
theorem tw_759 : (Cond.native ⟨"java/lang/Object", "clone", "()Ljava/lang/Object;"⟩) ∈ gtbl := gm_t (gi_3 (List.mem_of_getElem? (i := 164) (by decide +kernel))) rfl
theorem tw_760 : (Cond.instanceMethod ⟨"java/lang/Object", "clone", "()Ljava/lang/Object;"⟩) ∈ gtbl := gm_t (gi_3 (List.mem_of_getElem? (i := 165) (by decide +kernel))) rfl
theorem tw_761 : (Cond.selects "[I" ⟨"[I", "clone", "()Ljava/lang/Object;"⟩ ⟨"java/lang/Object", "clone", "()Ljava/lang/Object;"⟩) ∈ gtbl := gm_t (gi_3 (List.mem_of_getElem? (i := 166) (by decide +kernel))) rfl
theorem tw_763 : (Cond.classLink "java/util/Arrays" 317 "[I") ∈ gtbl := gm_t (gi_3 (List.mem_of_getElem? (i := 168) (by decide +kernel))) rfl
theorem tw_764 : (Cond.methodLink "java/util/Arrays" 304 yJ9_min_7cf53) ∈ gtbl := gm_t (gi_3 (List.mem_of_getElem? (i := 169) (by decide +kernel))) rfl
theorem tw_765 : (Cond.static yJ9_min_7cf53) ∈ gtbl := gm_t (gi_3 (List.mem_of_getElem? (i := 170) (by decide +kernel))) rfl
theorem tw_766 : (Cond.code yJ9_min_7cf53 prog_17_method_69_code 2 (some FieldType.int)) ∈ gtbl := gm_t (gi_3 (List.mem_of_getElem? (i := 171) (by decide +kernel))) rfl
theorem tw_767 : (Cond.methodLink "java/util/Arrays" 150 ⟨"java/lang/System", "arraycopy", "(Ljava/lang/Object;ILjava/lang/Object;II)V"⟩) ∈ gtbl := gm_t (gi_3 (List.mem_of_getElem? (i := 172) (by decide +kernel))) rfl
theorem tw_768 : (Cond.methodLink "ToffeeTown" 130 yX4_init) ∈ gtbl := gm_t (gi_3 (List.mem_of_getElem? (i := 173) (by decide +kernel))) rfl
theorem tw_769 : (Cond.instanceMethod yX4_init) ∈ gtbl := gm_t (gi_3 (List.mem_of_getElem? (i := 174) (by decide +kernel))) rfl
theorem tw_770 : (Cond.code yX4_init prog_6_method_1_code 2 none) ∈ gtbl := gm_t (gi_3 (List.mem_of_getElem? (i := 175) (by decide +kernel))) rfl
theorem tw_771 : (Cond.methodLink "ToffeeTown$Rule" 3 objectInit) ∈ gtbl := gm_t (gi_3 (List.mem_of_getElem? (i := 176) (by decide +kernel))) rfl
theorem tw_772 : (Cond.fieldLink "ToffeeTown$Rule" 15 "ToffeeTown$Rule" "steps" "[I") ∈ gtbl := gm_t (gi_3 (List.mem_of_getElem? (i := 177) (by decide +kernel))) rfl
theorem tw_773 : (Cond.fieldLink "ToffeeTown$Rule" 11 "ToffeeTown$Rule" "stack" "[J") ∈ gtbl := gm_t (gi_3 (List.mem_of_getElem? (i := 178) (by decide +kernel))) rfl
theorem tw_779 : (Cond.methodLink "ToffeeTownLaw" 32 yX11_force) ∈ gtbl := gm_t (gi_3 (List.mem_of_getElem? (i := 184) (by decide +kernel))) rfl
theorem tw_780 : (Cond.instanceMethod yX11_force) ∈ gtbl := gm_t (gi_3 (List.mem_of_getElem? (i := 185) (by decide +kernel))) rfl
theorem tw_781 : (Cond.selects "ToffeeTown" yX11_force yX11_force) ∈ gtbl := gm_t (gi_3 (List.mem_of_getElem? (i := 186) (by decide +kernel))) rfl
theorem tw_782 : (Cond.code yX11_force prog_1_method_6_code 3 (some FieldType.int)) ∈ gtbl := gm_t (gi_3 (List.mem_of_getElem? (i := 187) (by decide +kernel))) rfl
theorem tw_783 : (Cond.methodLink "ToffeeTownLaw" 36 yX11_house) ∈ gtbl := gm_t (gi_3 (List.mem_of_getElem? (i := 188) (by decide +kernel))) rfl
theorem tw_784 : (Cond.instanceMethod yX11_house) ∈ gtbl := gm_t (gi_3 (List.mem_of_getElem? (i := 189) (by decide +kernel))) rfl
theorem tw_785 : (Cond.selects "ToffeeTown" yX11_house yX11_house) ∈ gtbl := gm_t (gi_3 (List.mem_of_getElem? (i := 190) (by decide +kernel))) rfl
theorem tw_786 : (Cond.code yX11_house prog_1_method_7_code 3 (some FieldType.int)) ∈ gtbl := gm_t (gi_3 (List.mem_of_getElem? (i := 191) (by decide +kernel))) rfl
theorem tw_787 : (Cond.methodLink "ToffeeTown" 136 yX11_isHouse) ∈ gtbl := gm_t (gi_3 (List.mem_of_getElem? (i := 192) (by decide +kernel))) rfl
theorem tw_789 : (Cond.instanceMethod yX11_isHouse) ∈ gtbl := gm_t (gi_3 (List.mem_of_getElem? (i := 194) (by decide +kernel))) rfl
theorem tw_790 : (Cond.code yX11_isHouse prog_1_method_37_code 2 (some FieldType.boolean)) ∈ gtbl := gm_t (gi_3 (List.mem_of_getElem? (i := 195) (by decide +kernel))) rfl
theorem tw_791 : (Cond.methodLink "ToffeeTown" 149 yX7_pouredTo) ∈ gtbl := gm_t (gi_3 (List.mem_of_getElem? (i := 196) (by decide +kernel))) rfl
theorem tw_792 : (Cond.instanceMethod yX7_pouredTo) ∈ gtbl := gm_t (gi_3 (List.mem_of_getElem? (i := 197) (by decide +kernel))) rfl
theorem tw_793 : (Cond.selects "ToffeeTown$Standing" yX7_pouredTo yX7_pouredTo) ∈ gtbl := gm_t (gi_3 (List.mem_of_getElem? (i := 198) (by decide +kernel))) rfl
theorem tw_794 : (Cond.code yX7_pouredTo prog_9_method_9_code 2 (some FieldType.int)) ∈ gtbl := gm_t (gi_3 (List.mem_of_getElem? (i := 199) (by decide +kernel))) rfl
theorem tw_795 : (Cond.methodLink "ToffeeTown$Standing" 51 yX7_harderTo) ∈ gtbl := gm_t (gi_3 (List.mem_of_getElem? (i := 200) (by decide +kernel))) rfl
theorem tw_796 : (Cond.instanceMethod yX7_harderTo) ∈ gtbl := gm_t (gi_3 (List.mem_of_getElem? (i := 201) (by decide +kernel))) rfl
theorem tw_797 : (Cond.selects "ToffeeTown$Standing" yX7_harderTo yX7_harderTo) ∈ gtbl := gm_t (gi_3 (List.mem_of_getElem? (i := 202) (by decide +kernel))) rfl
theorem tw_798 : (Cond.code yX7_harderTo prog_9_method_8_code 5 (some FieldType.int)) ∈ gtbl := gm_t (gi_3 (List.mem_of_getElem? (i := 203) (by decide +kernel))) rfl
theorem tw_799 : (Cond.methodLink "ToffeeTown" 153 yX11_blockNow) ∈ gtbl := gm_t (gi_3 (List.mem_of_getElem? (i := 204) (by decide +kernel))) rfl
theorem tw_801 : (Cond.instanceMethod yX11_blockNow) ∈ gtbl := gm_t (gi_3 (List.mem_of_getElem? (i := 206) (by decide +kernel))) rfl
theorem tw_802 : (Cond.code yX11_blockNow prog_1_method_42_code 2 (some FieldType.int)) ∈ gtbl := gm_t (gi_3 (List.mem_of_getElem? (i := 207) (by decide +kernel))) rfl
theorem tw_803 : (Cond.methodLink "ToffeeTown" 180 yX9_heatOf) ∈ gtbl := gm_t (gi_3 (List.mem_of_getElem? (i := 208) (by decide +kernel))) rfl
theorem tw_804 : (Cond.instanceMethod yX9_heatOf) ∈ gtbl := gm_t (gi_3 (List.mem_of_getElem? (i := 209) (by decide +kernel))) rfl
theorem tw_805 : (Cond.selects "ToffeeTown$Town" yX9_heatOf yX9_heatOf) ∈ gtbl := gm_t (gi_3 (List.mem_of_getElem? (i := 210) (by decide +kernel))) rfl
theorem tw_806 : (Cond.code yX9_heatOf prog_11_method_5_code 3 (some FieldType.int)) ∈ gtbl := gm_t (gi_3 (List.mem_of_getElem? (i := 211) (by decide +kernel))) rfl
theorem tw_807 : (Cond.methodLink "ToffeeTown$Town" 51 yX9_toldHeat) ∈ gtbl := gm_t (gi_3 (List.mem_of_getElem? (i := 212) (by decide +kernel))) rfl
theorem tw_808 : (Cond.instanceMethod yX9_toldHeat) ∈ gtbl := gm_t (gi_3 (List.mem_of_getElem? (i := 213) (by decide +kernel))) rfl
theorem tw_809 : (Cond.selects "ToffeeTown$Town" yX9_toldHeat yX9_toldHeat) ∈ gtbl := gm_t (gi_3 (List.mem_of_getElem? (i := 214) (by decide +kernel))) rfl
theorem tw_810 : (Cond.code yX9_toldHeat prog_11_method_4_code 2 (some FieldType.int)) ∈ gtbl := gm_t (gi_3 (List.mem_of_getElem? (i := 215) (by decide +kernel))) rfl
theorem tw_811 : (Cond.methodLink "ToffeeTown$Town" 58 yJ9_max_7cf53) ∈ gtbl := gm_t (gi_3 (List.mem_of_getElem? (i := 216) (by decide +kernel))) rfl
theorem tw_812 : (Cond.static yJ9_max_7cf53) ∈ gtbl := gm_t (gi_3 (List.mem_of_getElem? (i := 217) (by decide +kernel))) rfl
theorem tw_813 : (Cond.code yJ9_max_7cf53 prog_17_method_65_code 2 (some FieldType.int)) ∈ gtbl := gm_t (gi_3 (List.mem_of_getElem? (i := 218) (by decide +kernel))) rfl
theorem tw_814 : (Cond.methodLink "ToffeeTown" 240 yX1_findHolds) ∈ gtbl := gm_t (gi_3 (List.mem_of_getElem? (i := 219) (by decide +kernel))) rfl
theorem tw_815 : (Cond.instanceMethod yX1_findHolds) ∈ gtbl := gm_t (gi_3 (List.mem_of_getElem? (i := 220) (by decide +kernel))) rfl
theorem tw_816 : (Cond.selects "ToffeeTown$Days" yX1_findHolds yX1_findHolds) ∈ gtbl := gm_t (gi_3 (List.mem_of_getElem? (i := 221) (by decide +kernel))) rfl
theorem tw_817 : (Cond.code yX1_findHolds prog_3_method_10_code 4 none) ∈ gtbl := gm_t (gi_3 (List.mem_of_getElem? (i := 222) (by decide +kernel))) rfl
theorem tw_818 : (Cond.methodLink "ToffeeTown$Days" 145 yX7_harderTo) ∈ gtbl := gm_t (gi_3 (List.mem_of_getElem? (i := 223) (by decide +kernel))) rfl
theorem tw_819 : (Cond.methodLink "ToffeeTown" 244 yX1_blockOf) ∈ gtbl := gm_t (gi_3 (List.mem_of_getElem? (i := 224) (by decide +kernel))) rfl
theorem tw_820 : (Cond.instanceMethod yX1_blockOf) ∈ gtbl := gm_t (gi_3 (List.mem_of_getElem? (i := 225) (by decide +kernel))) rfl
theorem tw_821 : (Cond.selects "ToffeeTown$Days" yX1_blockOf yX1_blockOf) ∈ gtbl := gm_t (gi_3 (List.mem_of_getElem? (i := 226) (by decide +kernel))) rfl
theorem tw_822 : (Cond.code yX1_blockOf prog_3_method_11_code 6 (some FieldType.int)) ∈ gtbl := gm_t (gi_3 (List.mem_of_getElem? (i := 227) (by decide +kernel))) rfl
theorem tn_823 : (Cond.methodLinkNest "ToffeeTown$Days" 121 yX11_hasBit "ToffeeTown") ∈ lw_tbl := List.mem_append_right _ (gi_3 (List.mem_of_getElem? (i := 228) (by decide +kernel)))
theorem tw_824 : (Cond.static yX11_hasBit) ∈ gtbl := gm_t (gi_3 (List.mem_of_getElem? (i := 229) (by decide +kernel))) rfl
theorem tw_825 : (Cond.code yX11_hasBit prog_1_method_40_code 2 (some FieldType.boolean)) ∈ gtbl := gm_t (gi_3 (List.mem_of_getElem? (i := 230) (by decide +kernel))) rfl
theorem tw_826 : (Cond.methodLink "ToffeeTown" 156 yX11_isFastNow) ∈ gtbl := gm_t (gi_3 (List.mem_of_getElem? (i := 231) (by decide +kernel))) rfl
theorem tw_828 : (Cond.instanceMethod yX11_isFastNow) ∈ gtbl := gm_t (gi_3 (List.mem_of_getElem? (i := 233) (by decide +kernel))) rfl
theorem tw_829 : (Cond.code yX11_isFastNow prog_1_method_43_code 2 (some FieldType.boolean)) ∈ gtbl := gm_t (gi_3 (List.mem_of_getElem? (i := 234) (by decide +kernel))) rfl
theorem tw_830 : (Cond.methodLink "ToffeeTown" 315 yX1_isFast) ∈ gtbl := gm_t (gi_3 (List.mem_of_getElem? (i := 235) (by decide +kernel))) rfl
theorem tw_831 : (Cond.instanceMethod yX1_isFast) ∈ gtbl := gm_t (gi_3 (List.mem_of_getElem? (i := 236) (by decide +kernel))) rfl
theorem tw_832 : (Cond.selects "ToffeeTown$Days" yX1_isFast yX1_isFast) ∈ gtbl := gm_t (gi_3 (List.mem_of_getElem? (i := 237) (by decide +kernel))) rfl
theorem tw_833 : (Cond.code yX1_isFast prog_3_method_12_code 5 (some FieldType.boolean)) ∈ gtbl := gm_t (gi_3 (List.mem_of_getElem? (i := 238) (by decide +kernel))) rfl
theorem tw_834 : (Cond.methodLink "ToffeeTownLaw" 41 yX11_pourOf) ∈ gtbl := gm_t (gi_3 (List.mem_of_getElem? (i := 239) (by decide +kernel))) rfl
theorem tw_835 : (Cond.instanceMethod yX11_pourOf) ∈ gtbl := gm_t (gi_4 (List.mem_of_getElem? (i := 0) (by decide +kernel))) rfl
theorem tw_836 : (Cond.selects "ToffeeTown" yX11_pourOf yX11_pourOf) ∈ gtbl := gm_t (gi_4 (List.mem_of_getElem? (i := 1) (by decide +kernel))) rfl
theorem tw_837 : (Cond.code yX11_pourOf prog_1_method_8_code 3 (some FieldType.int)) ∈ gtbl := gm_t (gi_4 (List.mem_of_getElem? (i := 2) (by decide +kernel))) rfl
theorem tw_838 : (Cond.methodLink "ToffeeTown" 159 yX11_areTwo) ∈ gtbl := gm_t (gi_4 (List.mem_of_getElem? (i := 3) (by decide +kernel))) rfl
theorem tw_840 : (Cond.instanceMethod yX11_areTwo) ∈ gtbl := gm_t (gi_4 (List.mem_of_getElem? (i := 5) (by decide +kernel))) rfl
theorem tw_841 : (Cond.code yX11_areTwo prog_1_method_38_code 3 (some FieldType.boolean)) ∈ gtbl := gm_t (gi_4 (List.mem_of_getElem? (i := 6) (by decide +kernel))) rfl
theorem tw_842 : (Cond.methodLink "ToffeeTown" 163 yX7_hardOf) ∈ gtbl := gm_t (gi_4 (List.mem_of_getElem? (i := 7) (by decide +kernel))) rfl
theorem tw_843 : (Cond.instanceMethod yX7_hardOf) ∈ gtbl := gm_t (gi_4 (List.mem_of_getElem? (i := 8) (by decide +kernel))) rfl
theorem tw_844 : (Cond.selects "ToffeeTown$Standing" yX7_hardOf yX7_hardOf) ∈ gtbl := gm_t (gi_4 (List.mem_of_getElem? (i := 9) (by decide +kernel))) rfl
theorem tw_845 : (Cond.code yX7_hardOf prog_9_method_4_code 3 (some FieldType.int)) ∈ gtbl := gm_t (gi_4 (List.mem_of_getElem? (i := 10) (by decide +kernel))) rfl
theorem tw_846 : (Cond.methodLink "ToffeeTownLaw" 45 yX11_day) ∈ gtbl := gm_t (gi_4 (List.mem_of_getElem? (i := 11) (by decide +kernel))) rfl
theorem tw_847 : (Cond.instanceMethod yX11_day) ∈ gtbl := gm_t (gi_4 (List.mem_of_getElem? (i := 12) (by decide +kernel))) rfl
theorem tw_848 : (Cond.selects "ToffeeTown" yX11_day yX11_day) ∈ gtbl := gm_t (gi_4 (List.mem_of_getElem? (i := 13) (by decide +kernel))) rfl
theorem tw_849 : (Cond.code yX11_day prog_1_method_9_code 1 (some FieldType.int)) ∈ gtbl := gm_t (gi_4 (List.mem_of_getElem? (i := 14) (by decide +kernel))) rfl
theorem tw_850 : (Cond.methodLink "ToffeeTown" 167 yX11_isTold) ∈ gtbl := gm_t (gi_4 (List.mem_of_getElem? (i := 15) (by decide +kernel))) rfl
theorem tw_852 : (Cond.instanceMethod yX11_isTold) ∈ gtbl := gm_t (gi_4 (List.mem_of_getElem? (i := 17) (by decide +kernel))) rfl
theorem tw_853 : (Cond.code yX11_isTold prog_1_method_36_code 1 (some FieldType.boolean)) ∈ gtbl := gm_t (gi_4 (List.mem_of_getElem? (i := 18) (by decide +kernel))) rfl
theorem tw_854 : (Cond.methodLink "ToffeeTown" 173 yX6_remember) ∈ gtbl := gm_t (gi_4 (List.mem_of_getElem? (i := 19) (by decide +kernel))) rfl
theorem tw_855 : (Cond.instanceMethod yX6_remember) ∈ gtbl := gm_t (gi_4 (List.mem_of_getElem? (i := 20) (by decide +kernel))) rfl
theorem tw_856 : (Cond.selects "ToffeeTown$Scene" yX6_remember yX6_remember) ∈ gtbl := gm_t (gi_4 (List.mem_of_getElem? (i := 21) (by decide +kernel))) rfl
theorem tw_857 : (Cond.code yX6_remember prog_8_method_5_code 1 none) ∈ gtbl := gm_t (gi_4 (List.mem_of_getElem? (i := 22) (by decide +kernel))) rfl
theorem tw_858 : (Cond.methodLink "ToffeeTown$Scene" 72 yX6_forgetFirst) ∈ gtbl := gm_t (gi_4 (List.mem_of_getElem? (i := 23) (by decide +kernel))) rfl
theorem tw_860 : (Cond.instanceMethod yX6_forgetFirst) ∈ gtbl := gm_t (gi_4 (List.mem_of_getElem? (i := 25) (by decide +kernel))) rfl
theorem tw_861 : (Cond.code yX6_forgetFirst prog_8_method_6_code 3 none) ∈ gtbl := gm_t (gi_4 (List.mem_of_getElem? (i := 26) (by decide +kernel))) rfl
theorem tw_862 : (Cond.methodLink "ToffeeTown$Scene" 59 yX6_pastAt) ∈ gtbl := gm_t (gi_4 (List.mem_of_getElem? (i := 27) (by decide +kernel))) rfl
theorem tw_864 : (Cond.instanceMethod yX6_pastAt) ∈ gtbl := gm_t (gi_4 (List.mem_of_getElem? (i := 29) (by decide +kernel))) rfl
theorem tw_865 : (Cond.code yX6_pastAt prog_8_method_4_code 2 (some (FieldType.object "ToffeeTown$Standing"))) ∈ gtbl := gm_t (gi_4 (List.mem_of_getElem? (i := 30) (by decide +kernel))) rfl
theorem tw_866 : (Cond.methodLink "ToffeeTown" 176 yX11_ruleInForce) ∈ gtbl := gm_t (gi_4 (List.mem_of_getElem? (i := 31) (by decide +kernel))) rfl
theorem tw_868 : (Cond.instanceMethod yX11_ruleInForce) ∈ gtbl := gm_t (gi_4 (List.mem_of_getElem? (i := 33) (by decide +kernel))) rfl
theorem tw_869 : (Cond.code yX11_ruleInForce prog_1_method_41_code 1 (some (FieldType.object "ToffeeTown$Rule"))) ∈ gtbl := gm_t (gi_4 (List.mem_of_getElem? (i := 34) (by decide +kernel))) rfl
theorem tw_870 : (Cond.methodLink "ToffeeTown" 192 yX11_isWithin) ∈ gtbl := gm_t (gi_4 (List.mem_of_getElem? (i := 35) (by decide +kernel))) rfl
theorem tw_871 : (Cond.methodLink "ToffeeTown" 184 yX1_pass) ∈ gtbl := gm_t (gi_4 (List.mem_of_getElem? (i := 36) (by decide +kernel))) rfl
theorem tw_872 : (Cond.instanceMethod yX1_pass) ∈ gtbl := gm_t (gi_4 (List.mem_of_getElem? (i := 37) (by decide +kernel))) rfl
theorem tw_873 : (Cond.selects "ToffeeTown$Days" yX1_pass yX1_pass) ∈ gtbl := gm_t (gi_4 (List.mem_of_getElem? (i := 38) (by decide +kernel))) rfl
theorem tw_874 : (Cond.code yX1_pass prog_3_method_3_code 4 (some FieldType.int)) ∈ gtbl := gm_t (gi_4 (List.mem_of_getElem? (i := 39) (by decide +kernel))) rfl
theorem tw_875 : (Cond.methodLink "ToffeeTown$Days" 39 yX1_hardenBy) ∈ gtbl := gm_t (gi_4 (List.mem_of_getElem? (i := 40) (by decide +kernel))) rfl
theorem tw_877 : (Cond.instanceMethod yX1_hardenBy) ∈ gtbl := gm_t (gi_4 (List.mem_of_getElem? (i := 42) (by decide +kernel))) rfl
theorem tw_878 : (Cond.code yX1_hardenBy prog_3_method_4_code 12 none) ∈ gtbl := gm_t (gi_4 (List.mem_of_getElem? (i := 43) (by decide +kernel))) rfl
theorem tw_879 : (Cond.methodLink "ToffeeTown$Days" 50 yX7_canHarden) ∈ gtbl := gm_t (gi_4 (List.mem_of_getElem? (i := 44) (by decide +kernel))) rfl
theorem tw_880 : (Cond.instanceMethod yX7_canHarden) ∈ gtbl := gm_t (gi_4 (List.mem_of_getElem? (i := 45) (by decide +kernel))) rfl
theorem tw_881 : (Cond.selects "ToffeeTown$Standing" yX7_canHarden yX7_canHarden) ∈ gtbl := gm_t (gi_4 (List.mem_of_getElem? (i := 46) (by decide +kernel))) rfl
theorem tw_882 : (Cond.code yX7_canHarden prog_9_method_7_code 3 (some FieldType.boolean)) ∈ gtbl := gm_t (gi_4 (List.mem_of_getElem? (i := 47) (by decide +kernel))) rfl
theorem tw_883 : (Cond.methodLink "ToffeeTown$Standing" 43 yX7_hardOf) ∈ gtbl := gm_t (gi_4 (List.mem_of_getElem? (i := 48) (by decide +kernel))) rfl
theorem tw_884 : (Cond.methodLink "ToffeeTown$Days" 54 yX1_fillWords) ∈ gtbl := gm_t (gi_4 (List.mem_of_getElem? (i := 49) (by decide +kernel))) rfl
theorem tw_886 : (Cond.instanceMethod yX1_fillWords) ∈ gtbl := gm_t (gi_4 (List.mem_of_getElem? (i := 51) (by decide +kernel))) rfl
theorem tw_887 : (Cond.code yX1_fillWords prog_3_method_5_code 5 none) ∈ gtbl := gm_t (gi_4 (List.mem_of_getElem? (i := 52) (by decide +kernel))) rfl
theorem tw_888 : (Cond.methodLink "ToffeeTown$Days" 68 yX7_hardOf) ∈ gtbl := gm_t (gi_4 (List.mem_of_getElem? (i := 53) (by decide +kernel))) rfl
theorem tw_889 : (Cond.methodLink "ToffeeTown$Days" 75 yJ9_abs_0f7a4) ∈ gtbl := gm_t (gi_4 (List.mem_of_getElem? (i := 54) (by decide +kernel))) rfl
theorem tw_890 : (Cond.static yJ9_abs_0f7a4) ∈ gtbl := gm_t (gi_4 (List.mem_of_getElem? (i := 55) (by decide +kernel))) rfl
theorem tw_891 : (Cond.code yJ9_abs_0f7a4 prog_17_method_59_code 1 (some FieldType.int)) ∈ gtbl := gm_t (gi_4 (List.mem_of_getElem? (i := 56) (by decide +kernel))) rfl
theorem tw_892 : (Cond.methodLink "ToffeeTown$Days" 87 yX9_toldHeat) ∈ gtbl := gm_t (gi_4 (List.mem_of_getElem? (i := 57) (by decide +kernel))) rfl
theorem tw_893 : (Cond.methodLink "ToffeeTown$Days" 58 yX4_worth) ∈ gtbl := gm_t (gi_4 (List.mem_of_getElem? (i := 58) (by decide +kernel))) rfl
theorem tw_894 : (Cond.instanceMethod yX4_worth) ∈ gtbl := gm_t (gi_4 (List.mem_of_getElem? (i := 59) (by decide +kernel))) rfl
theorem tw_895 : (Cond.selects "ToffeeTown$Rule" yX4_worth yX4_worth) ∈ gtbl := gm_t (gi_4 (List.mem_of_getElem? (i := 60) (by decide +kernel))) rfl
theorem tw_896 : (Cond.code yX4_worth prog_6_method_2_code 5 (some FieldType.long)) ∈ gtbl := gm_t (gi_4 (List.mem_of_getElem? (i := 61) (by decide +kernel))) rfl
theorem tn_897 : (Cond.methodLinkNest "ToffeeTown$Rule" 19 yX11_isWithin "ToffeeTown") ∈ lw_tbl := List.mem_append_right _ (gi_4 (List.mem_of_getElem? (i := 62) (by decide +kernel)))
theorem tw_898 : (Cond.methodLink "ToffeeTown$Rule" 23 yX4_joined) ∈ gtbl := gm_t (gi_4 (List.mem_of_getElem? (i := 63) (by decide +kernel))) rfl
theorem tw_899 : (Cond.static yX4_joined) ∈ gtbl := gm_t (gi_4 (List.mem_of_getElem? (i := 64) (by decide +kernel))) rfl
theorem tw_900 : (Cond.code yX4_joined prog_6_method_3_code 5 (some FieldType.long)) ∈ gtbl := gm_t (gi_4 (List.mem_of_getElem? (i := 65) (by decide +kernel))) rfl
theorem tw_901 : (Cond.methodLink "ToffeeTown$Days" 64 yX7_harden) ∈ gtbl := gm_t (gi_4 (List.mem_of_getElem? (i := 66) (by decide +kernel))) rfl
theorem tw_902 : (Cond.instanceMethod yX7_harden) ∈ gtbl := gm_t (gi_4 (List.mem_of_getElem? (i := 67) (by decide +kernel))) rfl
theorem tw_903 : (Cond.selects "ToffeeTown$Standing" yX7_harden yX7_harden) ∈ gtbl := gm_t (gi_4 (List.mem_of_getElem? (i := 68) (by decide +kernel))) rfl
theorem tw_904 : (Cond.code yX7_harden prog_9_method_6_code 3 none) ∈ gtbl := gm_t (gi_4 (List.mem_of_getElem? (i := 69) (by decide +kernel))) rfl
theorem tw_905 : (Cond.methodLink "ToffeeTown$Standing" 47 yX7_setHard) ∈ gtbl := gm_t (gi_4 (List.mem_of_getElem? (i := 70) (by decide +kernel))) rfl
theorem tw_906 : (Cond.methodLink "ToffeeTown$Days" 43 yX1_melt) ∈ gtbl := gm_t (gi_4 (List.mem_of_getElem? (i := 71) (by decide +kernel))) rfl
theorem tw_907 : (Cond.instanceMethod yX1_melt) ∈ gtbl := gm_t (gi_4 (List.mem_of_getElem? (i := 72) (by decide +kernel))) rfl
theorem tw_908 : (Cond.selects "ToffeeTown$Days" yX1_melt yX1_melt) ∈ gtbl := gm_t (gi_4 (List.mem_of_getElem? (i := 73) (by decide +kernel))) rfl
theorem tw_909 : (Cond.code yX1_melt prog_3_method_6_code 5 (some FieldType.int)) ∈ gtbl := gm_t (gi_4 (List.mem_of_getElem? (i := 74) (by decide +kernel))) rfl
theorem tw_910 : (Cond.methodLink "ToffeeTown$Days" 90 yX1_runDown) ∈ gtbl := gm_t (gi_4 (List.mem_of_getElem? (i := 75) (by decide +kernel))) rfl
theorem tw_912 : (Cond.instanceMethod yX1_runDown) ∈ gtbl := gm_t (gi_4 (List.mem_of_getElem? (i := 77) (by decide +kernel))) rfl
theorem tw_913 : (Cond.code yX1_runDown prog_3_method_7_code 8 (some FieldType.int)) ∈ gtbl := gm_t (gi_4 (List.mem_of_getElem? (i := 78) (by decide +kernel))) rfl
theorem tw_914 : (Cond.methodLink "ToffeeTown$Days" 115 yX1_findHolds) ∈ gtbl := gm_t (gi_4 (List.mem_of_getElem? (i := 79) (by decide +kernel))) rfl
theorem tw_915 : (Cond.methodLink "ToffeeTown$Days" 118 yX9_riverBits) ∈ gtbl := gm_t (gi_4 (List.mem_of_getElem? (i := 80) (by decide +kernel))) rfl
theorem tw_916 : (Cond.instanceMethod yX9_riverBits) ∈ gtbl := gm_t (gi_4 (List.mem_of_getElem? (i := 81) (by decide +kernel))) rfl
theorem tw_917 : (Cond.selects "ToffeeTown$Town" yX9_riverBits yX9_riverBits) ∈ gtbl := gm_t (gi_4 (List.mem_of_getElem? (i := 82) (by decide +kernel))) rfl
theorem tw_918 : (Cond.code yX9_riverBits prog_11_method_6_code 4 (some FieldType.int)) ∈ gtbl := gm_t (gi_4 (List.mem_of_getElem? (i := 83) (by decide +kernel))) rfl
theorem tw_919 : (Cond.methodLink "ToffeeTown$Days" 124 yX1_blockOf) ∈ gtbl := gm_t (gi_4 (List.mem_of_getElem? (i := 84) (by decide +kernel))) rfl
theorem tw_920 : (Cond.methodLink "ToffeeTown$Days" 110 yJ6_bitCount_0f7a4) ∈ gtbl := gm_t (gi_4 (List.mem_of_getElem? (i := 85) (by decide +kernel))) rfl
theorem tw_921 : (Cond.static yJ6_bitCount_0f7a4) ∈ gtbl := gm_t (gi_4 (List.mem_of_getElem? (i := 86) (by decide +kernel))) rfl
theorem tw_922 : (Cond.code yJ6_bitCount_0f7a4 prog_16_method_49_code 1 (some FieldType.int)) ∈ gtbl := gm_t (gi_4 (List.mem_of_getElem? (i := 87) (by decide +kernel))) rfl
theorem tw_923 : (Cond.constant "java/lang/Integer" 265 (1431655765 : Int32)) ∈ gtbl := gm_t (gi_4 (List.mem_of_getElem? (i := 88) (by decide +kernel))) rfl
theorem tw_924 : (Cond.constant "java/lang/Integer" 266 (858993459 : Int32)) ∈ gtbl := gm_t (gi_4 (List.mem_of_getElem? (i := 89) (by decide +kernel))) rfl
theorem tw_925 : (Cond.constant "java/lang/Integer" 267 (252645135 : Int32)) ∈ gtbl := gm_t (gi_4 (List.mem_of_getElem? (i := 90) (by decide +kernel))) rfl
theorem tw_926 : (Cond.methodLink "ToffeeTown$Days" 127 yX1_isFast) ∈ gtbl := gm_t (gi_4 (List.mem_of_getElem? (i := 91) (by decide +kernel))) rfl
theorem tw_927 : (Cond.methodLink "ToffeeTown$Days" 131 yX1_lower) ∈ gtbl := gm_t (gi_4 (List.mem_of_getElem? (i := 92) (by decide +kernel))) rfl
theorem tw_929 : (Cond.instanceMethod yX1_lower) ∈ gtbl := gm_t (gi_4 (List.mem_of_getElem? (i := 94) (by decide +kernel))) rfl
theorem tw_930 : (Cond.code yX1_lower prog_3_method_8_code 5 none) ∈ gtbl := gm_t (gi_4 (List.mem_of_getElem? (i := 95) (by decide +kernel))) rfl
theorem tw_931 : (Cond.methodLink "ToffeeTown$Days" 135 yJ9_min_7cf53) ∈ gtbl := gm_t (gi_4 (List.mem_of_getElem? (i := 96) (by decide +kernel))) rfl
theorem tw_932 : (Cond.methodLink "ToffeeTown$Days" 96 yX7_loosen) ∈ gtbl := gm_t (gi_4 (List.mem_of_getElem? (i := 97) (by decide +kernel))) rfl
theorem tw_933 : (Cond.instanceMethod yX7_loosen) ∈ gtbl := gm_t (gi_4 (List.mem_of_getElem? (i := 98) (by decide +kernel))) rfl
theorem tw_934 : (Cond.selects "ToffeeTown$Standing" yX7_loosen yX7_loosen) ∈ gtbl := gm_t (gi_4 (List.mem_of_getElem? (i := 99) (by decide +kernel))) rfl
theorem tw_935 : (Cond.code yX7_loosen prog_9_method_11_code 3 none) ∈ gtbl := gm_t (gi_4 (List.mem_of_getElem? (i := 100) (by decide +kernel))) rfl
theorem tw_936 : (Cond.methodLink "ToffeeTown$Days" 100 yX1_stickTogether) ∈ gtbl := gm_t (gi_4 (List.mem_of_getElem? (i := 101) (by decide +kernel))) rfl
theorem tw_938 : (Cond.instanceMethod yX1_stickTogether) ∈ gtbl := gm_t (gi_4 (List.mem_of_getElem? (i := 103) (by decide +kernel))) rfl
theorem tw_939 : (Cond.code yX1_stickTogether prog_3_method_9_code 7 none) ∈ gtbl := gm_t (gi_4 (List.mem_of_getElem? (i := 104) (by decide +kernel))) rfl
theorem tw_940 : (Cond.methodLink "ToffeeTown$Days" 141 yX7_setHard) ∈ gtbl := gm_t (gi_4 (List.mem_of_getElem? (i := 105) (by decide +kernel))) rfl
theorem tw_941 : (Cond.methodLink "ToffeeTown$Days" 107 yJ9_max_7cf53) ∈ gtbl := gm_t (gi_4 (List.mem_of_getElem? (i := 106) (by decide +kernel))) rfl
theorem tw_942 : (Cond.methodLink "ToffeeTownLaw" 49 yX11_crack) ∈ gtbl := gm_t (gi_4 (List.mem_of_getElem? (i := 107) (by decide +kernel))) rfl
theorem tw_943 : (Cond.instanceMethod yX11_crack) ∈ gtbl := gm_t (gi_4 (List.mem_of_getElem? (i := 108) (by decide +kernel))) rfl
theorem tw_944 : (Cond.selects "ToffeeTown" yX11_crack yX11_crack) ∈ gtbl := gm_t (gi_4 (List.mem_of_getElem? (i := 109) (by decide +kernel))) rfl
theorem tw_945 : (Cond.code yX11_crack prog_1_method_10_code 4 (some FieldType.int)) ∈ gtbl := gm_t (gi_4 (List.mem_of_getElem? (i := 110) (by decide +kernel))) rfl
theorem tw_946 : (Cond.methodLink "ToffeeTown" 188 yX7_setHard) ∈ gtbl := gm_t (gi_4 (List.mem_of_getElem? (i := 111) (by decide +kernel))) rfl
theorem tw_947 : (Cond.methodLink "ToffeeTownLaw" 53 yX11_pour) ∈ gtbl := gm_t (gi_4 (List.mem_of_getElem? (i := 112) (by decide +kernel))) rfl
theorem tw_948 : (Cond.instanceMethod yX11_pour) ∈ gtbl := gm_t (gi_4 (List.mem_of_getElem? (i := 113) (by decide +kernel))) rfl
theorem tw_949 : (Cond.selects "ToffeeTown" yX11_pour yX11_pour) ∈ gtbl := gm_t (gi_4 (List.mem_of_getElem? (i := 114) (by decide +kernel))) rfl
theorem tw_950 : (Cond.code yX11_pour prog_1_method_11_code 4 (some FieldType.int)) ∈ gtbl := gm_t (gi_4 (List.mem_of_getElem? (i := 115) (by decide +kernel))) rfl
theorem tw_951 : (Cond.methodLink "ToffeeTown" 196 yX11_canPour) ∈ gtbl := gm_t (gi_4 (List.mem_of_getElem? (i := 116) (by decide +kernel))) rfl
theorem tw_953 : (Cond.instanceMethod yX11_canPour) ∈ gtbl := gm_t (gi_4 (List.mem_of_getElem? (i := 118) (by decide +kernel))) rfl
theorem tw_954 : (Cond.code yX11_canPour prog_1_method_44_code 5 (some FieldType.boolean)) ∈ gtbl := gm_t (gi_4 (List.mem_of_getElem? (i := 119) (by decide +kernel))) rfl
theorem tw_955 : (Cond.methodLink "ToffeeTown" 319 yJ9_abs_0f7a4) ∈ gtbl := gm_t (gi_4 (List.mem_of_getElem? (i := 120) (by decide +kernel))) rfl
theorem tw_956 : (Cond.methodLink "ToffeeTownLaw" 58 yX11_rock) ∈ gtbl := gm_t (gi_4 (List.mem_of_getElem? (i := 121) (by decide +kernel))) rfl
theorem tw_957 : (Cond.instanceMethod yX11_rock) ∈ gtbl := gm_t (gi_4 (List.mem_of_getElem? (i := 122) (by decide +kernel))) rfl
theorem tw_958 : (Cond.selects "ToffeeTown" yX11_rock yX11_rock) ∈ gtbl := gm_t (gi_4 (List.mem_of_getElem? (i := 123) (by decide +kernel))) rfl
theorem tw_959 : (Cond.code yX11_rock prog_1_method_12_code 4 (some FieldType.int)) ∈ gtbl := gm_t (gi_4 (List.mem_of_getElem? (i := 124) (by decide +kernel))) rfl
theorem tw_960 : (Cond.methodLink "ToffeeTownLaw" 62 yX11_ice) ∈ gtbl := gm_t (gi_4 (List.mem_of_getElem? (i := 125) (by decide +kernel))) rfl
theorem tw_961 : (Cond.instanceMethod yX11_ice) ∈ gtbl := gm_t (gi_4 (List.mem_of_getElem? (i := 126) (by decide +kernel))) rfl
theorem tw_962 : (Cond.selects "ToffeeTown" yX11_ice yX11_ice) ∈ gtbl := gm_t (gi_4 (List.mem_of_getElem? (i := 127) (by decide +kernel))) rfl
theorem tw_963 : (Cond.code yX11_ice prog_1_method_13_code 3 (some FieldType.int)) ∈ gtbl := gm_t (gi_4 (List.mem_of_getElem? (i := 128) (by decide +kernel))) rfl
theorem tw_964 : (Cond.methodLink "ToffeeTownLaw" 66 yX11_undo) ∈ gtbl := gm_t (gi_4 (List.mem_of_getElem? (i := 129) (by decide +kernel))) rfl
theorem tw_965 : (Cond.instanceMethod yX11_undo) ∈ gtbl := gm_t (gi_4 (List.mem_of_getElem? (i := 130) (by decide +kernel))) rfl
theorem tw_966 : (Cond.selects "ToffeeTown" yX11_undo yX11_undo) ∈ gtbl := gm_t (gi_4 (List.mem_of_getElem? (i := 131) (by decide +kernel))) rfl
theorem tw_967 : (Cond.code yX11_undo prog_1_method_14_code 1 (some FieldType.int)) ∈ gtbl := gm_t (gi_4 (List.mem_of_getElem? (i := 132) (by decide +kernel))) rfl
theorem tw_968 : (Cond.methodLink "ToffeeTown" 208 yX6_goBackAnAct) ∈ gtbl := gm_t (gi_4 (List.mem_of_getElem? (i := 133) (by decide +kernel))) rfl
theorem tw_969 : (Cond.instanceMethod yX6_goBackAnAct) ∈ gtbl := gm_t (gi_4 (List.mem_of_getElem? (i := 134) (by decide +kernel))) rfl
theorem tw_970 : (Cond.selects "ToffeeTown$Scene" yX6_goBackAnAct yX6_goBackAnAct) ∈ gtbl := gm_t (gi_4 (List.mem_of_getElem? (i := 135) (by decide +kernel))) rfl
theorem tw_971 : (Cond.code yX6_goBackAnAct prog_8_method_7_code 1 (some FieldType.boolean)) ∈ gtbl := gm_t (gi_4 (List.mem_of_getElem? (i := 136) (by decide +kernel))) rfl
theorem tw_972 : (Cond.methodLink "ToffeeTownLaw" 70 yX11_ahead) ∈ gtbl := gm_t (gi_4 (List.mem_of_getElem? (i := 137) (by decide +kernel))) rfl
theorem tw_973 : (Cond.instanceMethod yX11_ahead) ∈ gtbl := gm_t (gi_4 (List.mem_of_getElem? (i := 138) (by decide +kernel))) rfl
theorem tw_974 : (Cond.selects "ToffeeTown" yX11_ahead yX11_ahead) ∈ gtbl := gm_t (gi_4 (List.mem_of_getElem? (i := 139) (by decide +kernel))) rfl
theorem tw_975 : (Cond.code yX11_ahead prog_1_method_15_code 4 (some FieldType.int)) ∈ gtbl := gm_t (gi_4 (List.mem_of_getElem? (i := 140) (by decide +kernel))) rfl
theorem tw_976 : (Cond.methodLink "ToffeeTown" 214 yX7_copy) ∈ gtbl := gm_t (gi_4 (List.mem_of_getElem? (i := 141) (by decide +kernel))) rfl
theorem tw_977 : (Cond.methodLink "ToffeeTown" 218 yX1_passAll) ∈ gtbl := gm_t (gi_4 (List.mem_of_getElem? (i := 142) (by decide +kernel))) rfl
theorem tw_978 : (Cond.instanceMethod yX1_passAll) ∈ gtbl := gm_t (gi_4 (List.mem_of_getElem? (i := 143) (by decide +kernel))) rfl
theorem tw_979 : (Cond.selects "ToffeeTown$Days" yX1_passAll yX1_passAll) ∈ gtbl := gm_t (gi_4 (List.mem_of_getElem? (i := 144) (by decide +kernel))) rfl
theorem tw_980 : (Cond.code yX1_passAll prog_3_method_2_code 5 none) ∈ gtbl := gm_t (gi_4 (List.mem_of_getElem? (i := 145) (by decide +kernel))) rfl
theorem tw_981 : (Cond.methodLink "ToffeeTown$Days" 23 yX9_heatOf) ∈ gtbl := gm_t (gi_4 (List.mem_of_getElem? (i := 146) (by decide +kernel))) rfl
theorem tw_982 : (Cond.methodLink "ToffeeTown$Days" 29 yX1_pass) ∈ gtbl := gm_t (gi_4 (List.mem_of_getElem? (i := 147) (by decide +kernel))) rfl
theorem tw_983 : (Cond.methodLink "ToffeeTown" 222 yX9_riverBits) ∈ gtbl := gm_t (gi_4 (List.mem_of_getElem? (i := 148) (by decide +kernel))) rfl
theorem tw_984 : (Cond.methodLink "ToffeeTown" 225 yJ6_bitCount_0f7a4) ∈ gtbl := gm_t (gi_4 (List.mem_of_getElem? (i := 149) (by decide +kernel))) rfl
theorem tw_985 : (Cond.methodLink "ToffeeTownLaw" 74 yX11_down) ∈ gtbl := gm_t (gi_4 (List.mem_of_getElem? (i := 150) (by decide +kernel))) rfl
theorem tw_986 : (Cond.instanceMethod yX11_down) ∈ gtbl := gm_t (gi_4 (List.mem_of_getElem? (i := 151) (by decide +kernel))) rfl
theorem tw_987 : (Cond.selects "ToffeeTown" yX11_down yX11_down) ∈ gtbl := gm_t (gi_4 (List.mem_of_getElem? (i := 152) (by decide +kernel))) rfl
theorem tw_988 : (Cond.code yX11_down prog_1_method_16_code 2 (some FieldType.int)) ∈ gtbl := gm_t (gi_4 (List.mem_of_getElem? (i := 153) (by decide +kernel))) rfl
theorem tw_989 : (Cond.methodLink "ToffeeTown" 230 yX11_findComesDown) ∈ gtbl := gm_t (gi_4 (List.mem_of_getElem? (i := 154) (by decide +kernel))) rfl
theorem tw_991 : (Cond.instanceMethod yX11_findComesDown) ∈ gtbl := gm_t (gi_4 (List.mem_of_getElem? (i := 156) (by decide +kernel))) rfl
theorem tw_992 : (Cond.code yX11_findComesDown prog_1_method_46_code 3 none) ∈ gtbl := gm_t (gi_4 (List.mem_of_getElem? (i := 157) (by decide +kernel))) rfl
theorem tw_993 : (Cond.methodLink "ToffeeTown" 324 yJ7_fill_53178) ∈ gtbl := gm_t (gi_4 (List.mem_of_getElem? (i := 158) (by decide +kernel))) rfl
theorem tw_994 : (Cond.methodLink "ToffeeTownLaw" 78 yX11_part) ∈ gtbl := gm_t (gi_4 (List.mem_of_getElem? (i := 159) (by decide +kernel))) rfl
theorem tw_995 : (Cond.instanceMethod yX11_part) ∈ gtbl := gm_t (gi_4 (List.mem_of_getElem? (i := 160) (by decide +kernel))) rfl
theorem tw_996 : (Cond.selects "ToffeeTown" yX11_part yX11_part) ∈ gtbl := gm_t (gi_4 (List.mem_of_getElem? (i := 161) (by decide +kernel))) rfl
theorem tw_997 : (Cond.code yX11_part prog_1_method_17_code 7 (some FieldType.int)) ∈ gtbl := gm_t (gi_4 (List.mem_of_getElem? (i := 162) (by decide +kernel))) rfl
theorem tw_998 : (Cond.constant "ToffeeTown" 233 (1000000 : Int32)) ∈ gtbl := gm_t (gi_4 (List.mem_of_getElem? (i := 163) (by decide +kernel))) rfl
theorem tw_999 : (Cond.methodLink "ToffeeTown" 234 yX11_hasBit) ∈ gtbl := gm_t (gi_4 (List.mem_of_getElem? (i := 164) (by decide +kernel))) rfl
theorem tw_1000 : (Cond.methodLink "ToffeeTown" 237 yX11_poursAcross) ∈ gtbl := gm_t (gi_4 (List.mem_of_getElem? (i := 165) (by decide +kernel))) rfl
theorem tw_1002 : (Cond.instanceMethod yX11_poursAcross) ∈ gtbl := gm_t (gi_4 (List.mem_of_getElem? (i := 167) (by decide +kernel))) rfl
theorem tw_1003 : (Cond.code yX11_poursAcross prog_1_method_45_code 4 (some FieldType.int)) ∈ gtbl := gm_t (gi_4 (List.mem_of_getElem? (i := 168) (by decide +kernel))) rfl
theorem tw_1004 : (Cond.methodLink "ToffeeTownLaw" 82 yX11_blocks) ∈ gtbl := gm_t (gi_4 (List.mem_of_getElem? (i := 169) (by decide +kernel))) rfl
theorem tw_1005 : (Cond.instanceMethod yX11_blocks) ∈ gtbl := gm_t (gi_4 (List.mem_of_getElem? (i := 170) (by decide +kernel))) rfl
theorem tw_1006 : (Cond.selects "ToffeeTown" yX11_blocks yX11_blocks) ∈ gtbl := gm_t (gi_4 (List.mem_of_getElem? (i := 171) (by decide +kernel))) rfl
theorem tw_1007 : (Cond.code yX11_blocks prog_1_method_18_code 7 (some FieldType.int)) ∈ gtbl := gm_t (gi_4 (List.mem_of_getElem? (i := 172) (by decide +kernel))) rfl
theorem tw_1008 : (Cond.methodLink "ToffeeTownLaw" 86 yX11_stay) ∈ gtbl := gm_t (gi_4 (List.mem_of_getElem? (i := 173) (by decide +kernel))) rfl
theorem tw_1009 : (Cond.instanceMethod yX11_stay) ∈ gtbl := gm_t (gi_4 (List.mem_of_getElem? (i := 174) (by decide +kernel))) rfl
theorem tw_1010 : (Cond.selects "ToffeeTown" yX11_stay yX11_stay) ∈ gtbl := gm_t (gi_4 (List.mem_of_getElem? (i := 175) (by decide +kernel))) rfl
theorem tw_1011 : (Cond.code yX11_stay prog_1_method_19_code 4 (some FieldType.int)) ∈ gtbl := gm_t (gi_4 (List.mem_of_getElem? (i := 176) (by decide +kernel))) rfl
theorem tw_1012 : (Cond.methodLink "ToffeeTownLaw" 90 yX11_iced) ∈ gtbl := gm_t (gi_4 (List.mem_of_getElem? (i := 177) (by decide +kernel))) rfl
theorem tw_1013 : (Cond.instanceMethod yX11_iced) ∈ gtbl := gm_t (gi_4 (List.mem_of_getElem? (i := 178) (by decide +kernel))) rfl
theorem tw_1014 : (Cond.selects "ToffeeTown" yX11_iced yX11_iced) ∈ gtbl := gm_t (gi_4 (List.mem_of_getElem? (i := 179) (by decide +kernel))) rfl
theorem tw_1015 : (Cond.code yX11_iced prog_1_method_20_code 3 (some FieldType.int)) ∈ gtbl := gm_t (gi_4 (List.mem_of_getElem? (i := 180) (by decide +kernel))) rfl
theorem tw_1016 : (Cond.methodLink "ToffeeTownLaw" 94 yX11_stood) ∈ gtbl := gm_t (gi_4 (List.mem_of_getElem? (i := 181) (by decide +kernel))) rfl
theorem tw_1017 : (Cond.instanceMethod yX11_stood) ∈ gtbl := gm_t (gi_4 (List.mem_of_getElem? (i := 182) (by decide +kernel))) rfl
theorem tw_1018 : (Cond.selects "ToffeeTown" yX11_stood yX11_stood) ∈ gtbl := gm_t (gi_4 (List.mem_of_getElem? (i := 183) (by decide +kernel))) rfl
theorem tw_1019 : (Cond.code yX11_stood prog_1_method_21_code 8 (some FieldType.int)) ∈ gtbl := gm_t (gi_4 (List.mem_of_getElem? (i := 184) (by decide +kernel))) rfl
theorem tw_1020 : (Cond.methodLink "ToffeeTownLaw" 99 yX11_row) ∈ gtbl := gm_t (gi_4 (List.mem_of_getElem? (i := 185) (by decide +kernel))) rfl
theorem tw_1021 : (Cond.instanceMethod yX11_row) ∈ gtbl := gm_t (gi_4 (List.mem_of_getElem? (i := 186) (by decide +kernel))) rfl
theorem tw_1022 : (Cond.selects "ToffeeTown" yX11_row yX11_row) ∈ gtbl := gm_t (gi_4 (List.mem_of_getElem? (i := 187) (by decide +kernel))) rfl
theorem tw_1023 : (Cond.code yX11_row prog_1_method_22_code 3 (some FieldType.int)) ∈ gtbl := gm_t (gi_4 (List.mem_of_getElem? (i := 188) (by decide +kernel))) rfl
theorem tw_1024 : (Cond.methodLink "ToffeeTown" 247 yX3_find) ∈ gtbl := gm_t (gi_4 (List.mem_of_getElem? (i := 189) (by decide +kernel))) rfl
theorem tw_1025 : (Cond.instanceMethod yX3_find) ∈ gtbl := gm_t (gi_4 (List.mem_of_getElem? (i := 190) (by decide +kernel))) rfl
theorem tw_1026 : (Cond.selects "ToffeeTown$Rows" yX3_find yX3_find) ∈ gtbl := gm_t (gi_4 (List.mem_of_getElem? (i := 191) (by decide +kernel))) rfl
theorem tw_1027 : (Cond.code yX3_find prog_5_method_2_code 3 none) ∈ gtbl := gm_t (gi_4 (List.mem_of_getElem? (i := 192) (by decide +kernel))) rfl
theorem tw_1028 : (Cond.constant "ToffeeTown$Rows" 29 (1000000 : Int32)) ∈ gtbl := gm_t (gi_4 (List.mem_of_getElem? (i := 193) (by decide +kernel))) rfl
theorem tw_1029 : (Cond.methodLink "ToffeeTown$Rows" 34 yX7_copy) ∈ gtbl := gm_t (gi_4 (List.mem_of_getElem? (i := 194) (by decide +kernel))) rfl
theorem tw_1030 : (Cond.methodLink "ToffeeTown$Rows" 38 yX3_search) ∈ gtbl := gm_t (gi_4 (List.mem_of_getElem? (i := 195) (by decide +kernel))) rfl
theorem tw_1032 : (Cond.instanceMethod yX3_search) ∈ gtbl := gm_t (gi_4 (List.mem_of_getElem? (i := 197) (by decide +kernel))) rfl
theorem tw_1033 : (Cond.code yX3_search prog_5_method_3_code 5 none) ∈ gtbl := gm_t (gi_4 (List.mem_of_getElem? (i := 198) (by decide +kernel))) rfl
theorem tw_1034 : (Cond.methodLink "ToffeeTown$Rows" 42 yX3_keepIfBetter) ∈ gtbl := gm_t (gi_4 (List.mem_of_getElem? (i := 199) (by decide +kernel))) rfl
theorem tw_1036 : (Cond.instanceMethod yX3_keepIfBetter) ∈ gtbl := gm_t (gi_4 (List.mem_of_getElem? (i := 201) (by decide +kernel))) rfl
theorem tw_1037 : (Cond.code yX3_keepIfBetter prog_5_method_5_code 3 none) ∈ gtbl := gm_t (gi_4 (List.mem_of_getElem? (i := 202) (by decide +kernel))) rfl
theorem tw_1038 : (Cond.methodLink "ToffeeTown$Rows" 79 yX9_placesOf) ∈ gtbl := gm_t (gi_4 (List.mem_of_getElem? (i := 203) (by decide +kernel))) rfl
theorem tw_1039 : (Cond.instanceMethod yX9_placesOf) ∈ gtbl := gm_t (gi_4 (List.mem_of_getElem? (i := 204) (by decide +kernel))) rfl
theorem tw_1040 : (Cond.selects "ToffeeTown$Town" yX9_placesOf yX9_placesOf) ∈ gtbl := gm_t (gi_4 (List.mem_of_getElem? (i := 205) (by decide +kernel))) rfl
theorem tw_1041 : (Cond.code yX9_placesOf prog_11_method_7_code 4 (some FieldType.int)) ∈ gtbl := gm_t (gi_4 (List.mem_of_getElem? (i := 206) (by decide +kernel))) rfl
theorem tw_1042 : (Cond.methodLink "ToffeeTown$Rows" 82 ⟨"java/lang/System", "arraycopy", "(Ljava/lang/Object;ILjava/lang/Object;II)V"⟩) ∈ gtbl := gm_t (gi_4 (List.mem_of_getElem? (i := 207) (by decide +kernel))) rfl
theorem tw_1043 : (Cond.methodLink "ToffeeTown$Rows" 46 yX3_goOn) ∈ gtbl := gm_t (gi_4 (List.mem_of_getElem? (i := 208) (by decide +kernel))) rfl
theorem tw_1045 : (Cond.instanceMethod yX3_goOn) ∈ gtbl := gm_t (gi_4 (List.mem_of_getElem? (i := 210) (by decide +kernel))) rfl
theorem tw_1046 : (Cond.code yX3_goOn prog_5_method_4_code 6 none) ∈ gtbl := gm_t (gi_4 (List.mem_of_getElem? (i := 211) (by decide +kernel))) rfl
theorem tw_1047 : (Cond.methodLink "ToffeeTown$Rows" 68 yX7_harden) ∈ gtbl := gm_t (gi_4 (List.mem_of_getElem? (i := 212) (by decide +kernel))) rfl
theorem tw_1048 : (Cond.methodLink "ToffeeTown$Rows" 71 yX9_heatOf) ∈ gtbl := gm_t (gi_4 (List.mem_of_getElem? (i := 213) (by decide +kernel))) rfl
theorem tw_1049 : (Cond.methodLink "ToffeeTown$Rows" 75 yX1_melt) ∈ gtbl := gm_t (gi_4 (List.mem_of_getElem? (i := 214) (by decide +kernel))) rfl
theorem tw_1050 : (Cond.methodLink "ToffeeTown$Rows" 64 yX7_canHarden) ∈ gtbl := gm_t (gi_4 (List.mem_of_getElem? (i := 215) (by decide +kernel))) rfl
theorem tw_1051 : (Cond.methodLink "ToffeeTownLaw" 103 yX11_order) ∈ gtbl := gm_t (gi_4 (List.mem_of_getElem? (i := 216) (by decide +kernel))) rfl
theorem tw_1052 : (Cond.instanceMethod yX11_order) ∈ gtbl := gm_t (gi_4 (List.mem_of_getElem? (i := 217) (by decide +kernel))) rfl
theorem tw_1053 : (Cond.selects "ToffeeTown" yX11_order yX11_order) ∈ gtbl := gm_t (gi_4 (List.mem_of_getElem? (i := 218) (by decide +kernel))) rfl
theorem tw_1054 : (Cond.code yX11_order prog_1_method_23_code 5 (some FieldType.int)) ∈ gtbl := gm_t (gi_4 (List.mem_of_getElem? (i := 219) (by decide +kernel))) rfl
theorem tw_1055 : (Cond.methodLink "ToffeeTownLaw" 107 yX11_rests) ∈ gtbl := gm_t (gi_4 (List.mem_of_getElem? (i := 220) (by decide +kernel))) rfl
theorem tw_1056 : (Cond.instanceMethod yX11_rests) ∈ gtbl := gm_t (gi_4 (List.mem_of_getElem? (i := 221) (by decide +kernel))) rfl
theorem tw_1057 : (Cond.selects "ToffeeTown" yX11_rests yX11_rests) ∈ gtbl := gm_t (gi_4 (List.mem_of_getElem? (i := 222) (by decide +kernel))) rfl
theorem tw_1058 : (Cond.code yX11_rests prog_1_method_24_code 5 (some FieldType.int)) ∈ gtbl := gm_t (gi_4 (List.mem_of_getElem? (i := 223) (by decide +kernel))) rfl
theorem tw_1059 : (Cond.methodLink "ToffeeTown" 256 yX2_play) ∈ gtbl := gm_t (gi_4 (List.mem_of_getElem? (i := 224) (by decide +kernel))) rfl
theorem tw_1060 : (Cond.instanceMethod yX2_play) ∈ gtbl := gm_t (gi_4 (List.mem_of_getElem? (i := 225) (by decide +kernel))) rfl
theorem tw_1061 : (Cond.selects "ToffeeTown$Rests" yX2_play yX2_play) ∈ gtbl := gm_t (gi_4 (List.mem_of_getElem? (i := 226) (by decide +kernel))) rfl
theorem tw_1062 : (Cond.code yX2_play prog_4_method_2_code 9 none) ∈ gtbl := gm_t (gi_4 (List.mem_of_getElem? (i := 227) (by decide +kernel))) rfl
theorem tw_1063 : (Cond.methodLink "ToffeeTown$Rests" 27 yX7_copy) ∈ gtbl := gm_t (gi_4 (List.mem_of_getElem? (i := 228) (by decide +kernel))) rfl
theorem tw_1064 : (Cond.methodLink "ToffeeTown$Rests" 34 yX1_passAll) ∈ gtbl := gm_t (gi_4 (List.mem_of_getElem? (i := 229) (by decide +kernel))) rfl
theorem tw_1065 : (Cond.methodLink "ToffeeTown" 260 yX2_find) ∈ gtbl := gm_t (gi_4 (List.mem_of_getElem? (i := 230) (by decide +kernel))) rfl
theorem tw_1066 : (Cond.instanceMethod yX2_find) ∈ gtbl := gm_t (gi_4 (List.mem_of_getElem? (i := 231) (by decide +kernel))) rfl
theorem tw_1067 : (Cond.selects "ToffeeTown$Rests" yX2_find yX2_find) ∈ gtbl := gm_t (gi_4 (List.mem_of_getElem? (i := 232) (by decide +kernel))) rfl
theorem tw_1068 : (Cond.code yX2_find prog_4_method_3_code 2 none) ∈ gtbl := gm_t (gi_4 (List.mem_of_getElem? (i := 233) (by decide +kernel))) rfl
theorem tw_1069 : (Cond.methodLink "ToffeeTown$Rests" 53 yX2_isRest) ∈ gtbl := gm_t (gi_4 (List.mem_of_getElem? (i := 234) (by decide +kernel))) rfl
theorem tw_1071 : (Cond.instanceMethod yX2_isRest) ∈ gtbl := gm_t (gi_4 (List.mem_of_getElem? (i := 236) (by decide +kernel))) rfl
theorem tw_1072 : (Cond.code yX2_isRest prog_4_method_4_code 5 (some FieldType.boolean)) ∈ gtbl := gm_t (gi_4 (List.mem_of_getElem? (i := 237) (by decide +kernel))) rfl
theorem tw_1073 : (Cond.methodLink "ToffeeTownLaw" 111 yX11_parts) ∈ gtbl := gm_t (gi_4 (List.mem_of_getElem? (i := 238) (by decide +kernel))) rfl
theorem tw_1074 : (Cond.instanceMethod yX11_parts) ∈ gtbl := gm_t (gi_4 (List.mem_of_getElem? (i := 239) (by decide +kernel))) rfl
theorem tw_1075 : (Cond.selects "ToffeeTown" yX11_parts yX11_parts) ∈ gtbl := gm_t (gi_5 (List.mem_of_getElem? (i := 0) (by decide +kernel))) rfl
theorem tw_1076 : (Cond.code yX11_parts prog_1_method_25_code 9 (some FieldType.int)) ∈ gtbl := gm_t (gi_5 (List.mem_of_getElem? (i := 1) (by decide +kernel))) rfl
theorem tw_1077 : (Cond.methodLink "ToffeeTown" 271 yX7_hardnessOf) ∈ gtbl := gm_t (gi_5 (List.mem_of_getElem? (i := 2) (by decide +kernel))) rfl
theorem tw_1078 : (Cond.instanceMethod yX7_hardnessOf) ∈ gtbl := gm_t (gi_5 (List.mem_of_getElem? (i := 3) (by decide +kernel))) rfl
theorem tw_1079 : (Cond.selects "ToffeeTown$Standing" yX7_hardnessOf yX7_hardnessOf) ∈ gtbl := gm_t (gi_5 (List.mem_of_getElem? (i := 4) (by decide +kernel))) rfl
theorem tw_1080 : (Cond.code yX7_hardnessOf prog_9_method_10_code 4 (some FieldType.int)) ∈ gtbl := gm_t (gi_5 (List.mem_of_getElem? (i := 5) (by decide +kernel))) rfl
theorem tw_1081 : (Cond.methodLink "ToffeeTownLaw" 115 yX11_note) ∈ gtbl := gm_t (gi_5 (List.mem_of_getElem? (i := 6) (by decide +kernel))) rfl
theorem tw_1082 : (Cond.instanceMethod yX11_note) ∈ gtbl := gm_t (gi_5 (List.mem_of_getElem? (i := 7) (by decide +kernel))) rfl
theorem tw_1083 : (Cond.selects "ToffeeTown" yX11_note yX11_note) ∈ gtbl := gm_t (gi_5 (List.mem_of_getElem? (i := 8) (by decide +kernel))) rfl
theorem tw_1084 : (Cond.code yX11_note prog_1_method_26_code 4 (some FieldType.int)) ∈ gtbl := gm_t (gi_5 (List.mem_of_getElem? (i := 9) (by decide +kernel))) rfl
theorem tw_1085 : (Cond.methodLink "ToffeeTown" 277 yX6_addNote) ∈ gtbl := gm_t (gi_5 (List.mem_of_getElem? (i := 10) (by decide +kernel))) rfl
theorem tw_1086 : (Cond.instanceMethod yX6_addNote) ∈ gtbl := gm_t (gi_5 (List.mem_of_getElem? (i := 11) (by decide +kernel))) rfl
theorem tw_1087 : (Cond.selects "ToffeeTown$Scene" yX6_addNote yX6_addNote) ∈ gtbl := gm_t (gi_5 (List.mem_of_getElem? (i := 12) (by decide +kernel))) rfl
theorem tw_1088 : (Cond.code yX6_addNote prog_8_method_8_code 4 none) ∈ gtbl := gm_t (gi_5 (List.mem_of_getElem? (i := 13) (by decide +kernel))) rfl
theorem tw_1089 : (Cond.methodLink "ToffeeTownLaw" 119 yX11_ruled) ∈ gtbl := gm_t (gi_5 (List.mem_of_getElem? (i := 14) (by decide +kernel))) rfl
theorem tw_1090 : (Cond.instanceMethod yX11_ruled) ∈ gtbl := gm_t (gi_5 (List.mem_of_getElem? (i := 15) (by decide +kernel))) rfl
theorem tw_1091 : (Cond.selects "ToffeeTown" yX11_ruled yX11_ruled) ∈ gtbl := gm_t (gi_5 (List.mem_of_getElem? (i := 16) (by decide +kernel))) rfl
theorem tw_1092 : (Cond.code yX11_ruled prog_1_method_27_code 2 (some FieldType.int)) ∈ gtbl := gm_t (gi_5 (List.mem_of_getElem? (i := 17) (by decide +kernel))) rfl
theorem tw_1093 : (Cond.methodLink "ToffeeTown" 280 yX0_find) ∈ gtbl := gm_t (gi_5 (List.mem_of_getElem? (i := 18) (by decide +kernel))) rfl
theorem tw_1094 : (Cond.instanceMethod yX0_find) ∈ gtbl := gm_t (gi_5 (List.mem_of_getElem? (i := 19) (by decide +kernel))) rfl
theorem tw_1095 : (Cond.selects "ToffeeTown$Candidates" yX0_find yX0_find) ∈ gtbl := gm_t (gi_5 (List.mem_of_getElem? (i := 20) (by decide +kernel))) rfl
theorem tw_1096 : (Cond.code yX0_find prog_2_method_2_code 6 none) ∈ gtbl := gm_t (gi_5 (List.mem_of_getElem? (i := 21) (by decide +kernel))) rfl
theorem tw_1097 : (Cond.methodLink "ToffeeTown$Candidates" 33 yX0_isSo) ∈ gtbl := gm_t (gi_5 (List.mem_of_getElem? (i := 22) (by decide +kernel))) rfl
theorem tw_1099 : (Cond.instanceMethod yX0_isSo) ∈ gtbl := gm_t (gi_5 (List.mem_of_getElem? (i := 24) (by decide +kernel))) rfl
theorem tw_1100 : (Cond.code yX0_isSo prog_2_method_3_code 6 (some FieldType.boolean)) ∈ gtbl := gm_t (gi_5 (List.mem_of_getElem? (i := 25) (by decide +kernel))) rfl
theorem tw_1101 : (Cond.methodLink "ToffeeTown$Candidates" 37 yX6_lastNotedDay) ∈ gtbl := gm_t (gi_5 (List.mem_of_getElem? (i := 26) (by decide +kernel))) rfl
theorem tw_1102 : (Cond.instanceMethod yX6_lastNotedDay) ∈ gtbl := gm_t (gi_5 (List.mem_of_getElem? (i := 27) (by decide +kernel))) rfl
theorem tw_1103 : (Cond.selects "ToffeeTown$Scene" yX6_lastNotedDay yX6_lastNotedDay) ∈ gtbl := gm_t (gi_5 (List.mem_of_getElem? (i := 28) (by decide +kernel))) rfl
theorem tw_1104 : (Cond.code yX6_lastNotedDay prog_8_method_10_code 3 (some FieldType.int)) ∈ gtbl := gm_t (gi_5 (List.mem_of_getElem? (i := 29) (by decide +kernel))) rfl
theorem tw_1105 : (Cond.methodLink "ToffeeTown$Scene" 81 yJ9_max_7cf53) ∈ gtbl := gm_t (gi_5 (List.mem_of_getElem? (i := 30) (by decide +kernel))) rfl
theorem tw_1106 : (Cond.methodLink "ToffeeTown$Candidates" 43 yJ9_max_7cf53) ∈ gtbl := gm_t (gi_5 (List.mem_of_getElem? (i := 31) (by decide +kernel))) rfl
theorem tw_1107 : (Cond.methodLink "ToffeeTown$Candidates" 60 yX7_copy) ∈ gtbl := gm_t (gi_5 (List.mem_of_getElem? (i := 32) (by decide +kernel))) rfl
theorem tw_1108 : (Cond.methodLink "ToffeeTown$Candidates" 64 yX6_isAsNoted) ∈ gtbl := gm_t (gi_5 (List.mem_of_getElem? (i := 33) (by decide +kernel))) rfl
theorem tw_1109 : (Cond.instanceMethod yX6_isAsNoted) ∈ gtbl := gm_t (gi_5 (List.mem_of_getElem? (i := 34) (by decide +kernel))) rfl
theorem tw_1110 : (Cond.selects "ToffeeTown$Scene" yX6_isAsNoted yX6_isAsNoted) ∈ gtbl := gm_t (gi_5 (List.mem_of_getElem? (i := 35) (by decide +kernel))) rfl
theorem tw_1111 : (Cond.code yX6_isAsNoted prog_8_method_9_code 3 (some FieldType.boolean)) ∈ gtbl := gm_t (gi_5 (List.mem_of_getElem? (i := 36) (by decide +kernel))) rfl
theorem tw_1112 : (Cond.methodLink "ToffeeTown$Candidates" 71 ⟨"java/lang/System", "arraycopy", "(Ljava/lang/Object;ILjava/lang/Object;II)V"⟩) ∈ gtbl := gm_t (gi_5 (List.mem_of_getElem? (i := 37) (by decide +kernel))) rfl
theorem tw_1113 : (Cond.methodLink "ToffeeTown$Candidates" 77 yX9_heatOf) ∈ gtbl := gm_t (gi_5 (List.mem_of_getElem? (i := 38) (by decide +kernel))) rfl
theorem tw_1114 : (Cond.methodLink "ToffeeTown$Candidates" 81 yX1_pass) ∈ gtbl := gm_t (gi_5 (List.mem_of_getElem? (i := 39) (by decide +kernel))) rfl
theorem tw_1115 : (Cond.methodLink "ToffeeTownLaw" 123 yX11_look) ∈ gtbl := gm_t (gi_5 (List.mem_of_getElem? (i := 40) (by decide +kernel))) rfl
theorem tw_1116 : (Cond.instanceMethod yX11_look) ∈ gtbl := gm_t (gi_5 (List.mem_of_getElem? (i := 41) (by decide +kernel))) rfl
theorem tw_1117 : (Cond.selects "ToffeeTown" yX11_look yX11_look) ∈ gtbl := gm_t (gi_5 (List.mem_of_getElem? (i := 42) (by decide +kernel))) rfl
theorem tw_1118 : (Cond.code yX11_look prog_1_method_28_code 5 (some FieldType.int)) ∈ gtbl := gm_t (gi_5 (List.mem_of_getElem? (i := 43) (by decide +kernel))) rfl
theorem tw_1119 : (Cond.methodLink "ToffeeTown" 287 yX0_mostAlike) ∈ gtbl := gm_t (gi_5 (List.mem_of_getElem? (i := 44) (by decide +kernel))) rfl
theorem tw_1120 : (Cond.instanceMethod yX0_mostAlike) ∈ gtbl := gm_t (gi_5 (List.mem_of_getElem? (i := 45) (by decide +kernel))) rfl
theorem tw_1121 : (Cond.selects "ToffeeTown$Candidates" yX0_mostAlike yX0_mostAlike) ∈ gtbl := gm_t (gi_5 (List.mem_of_getElem? (i := 46) (by decide +kernel))) rfl
theorem tw_1122 : (Cond.code yX0_mostAlike prog_2_method_4_code 6 (some FieldType.int)) ∈ gtbl := gm_t (gi_5 (List.mem_of_getElem? (i := 47) (by decide +kernel))) rfl
theorem tw_1123 : (Cond.methodLink "ToffeeTownLaw" 127 yX11_seed) ∈ gtbl := gm_t (gi_5 (List.mem_of_getElem? (i := 48) (by decide +kernel))) rfl
theorem tw_1124 : (Cond.instanceMethod yX11_seed) ∈ gtbl := gm_t (gi_5 (List.mem_of_getElem? (i := 49) (by decide +kernel))) rfl
theorem tw_1125 : (Cond.selects "ToffeeTown" yX11_seed yX11_seed) ∈ gtbl := gm_t (gi_5 (List.mem_of_getElem? (i := 50) (by decide +kernel))) rfl
theorem tw_1126 : (Cond.code yX11_seed prog_1_method_29_code 3 (some FieldType.int)) ∈ gtbl := gm_t (gi_5 (List.mem_of_getElem? (i := 51) (by decide +kernel))) rfl
theorem tw_1127 : (Cond.methodLink "ToffeeTownLaw" 131 yX11_summers) ∈ gtbl := gm_t (gi_5 (List.mem_of_getElem? (i := 52) (by decide +kernel))) rfl
theorem tw_1128 : (Cond.instanceMethod yX11_summers) ∈ gtbl := gm_t (gi_5 (List.mem_of_getElem? (i := 53) (by decide +kernel))) rfl
theorem tw_1129 : (Cond.selects "ToffeeTown" yX11_summers yX11_summers) ∈ gtbl := gm_t (gi_5 (List.mem_of_getElem? (i := 54) (by decide +kernel))) rfl
theorem tw_1130 : (Cond.code yX11_summers prog_1_method_30_code 8 (some FieldType.int)) ∈ gtbl := gm_t (gi_5 (List.mem_of_getElem? (i := 55) (by decide +kernel))) rfl
theorem tw_1131 : (Cond.methodLink "ToffeeTown" 293 yX11_passSummer) ∈ gtbl := gm_t (gi_5 (List.mem_of_getElem? (i := 56) (by decide +kernel))) rfl
theorem tw_1133 : (Cond.instanceMethod yX11_passSummer) ∈ gtbl := gm_t (gi_5 (List.mem_of_getElem? (i := 58) (by decide +kernel))) rfl
theorem tw_1134 : (Cond.code yX11_passSummer prog_1_method_47_code 7 (some FieldType.int)) ∈ gtbl := gm_t (gi_5 (List.mem_of_getElem? (i := 59) (by decide +kernel))) rfl
theorem tw_1135 : (Cond.methodLink "ToffeeTown" 330 yX11_behindDraw) ∈ gtbl := gm_t (gi_5 (List.mem_of_getElem? (i := 60) (by decide +kernel))) rfl
theorem tw_1136 : (Cond.static yX11_behindDraw) ∈ gtbl := gm_t (gi_5 (List.mem_of_getElem? (i := 61) (by decide +kernel))) rfl
theorem tw_1137 : (Cond.code yX11_behindDraw prog_1_method_48_code 1 (some FieldType.int)) ∈ gtbl := gm_t (gi_5 (List.mem_of_getElem? (i := 62) (by decide +kernel))) rfl
theorem tw_1138 : (Cond.constantLong "ToffeeTown" 334 (1103515245 : Int64)) ∈ gtbl := gm_t (gi_5 (List.mem_of_getElem? (i := 63) (by decide +kernel))) rfl
theorem tw_1139 : (Cond.constantLong "ToffeeTown" 336 (12345 : Int64)) ∈ gtbl := gm_t (gi_5 (List.mem_of_getElem? (i := 64) (by decide +kernel))) rfl
theorem tw_1140 : (Cond.constantLong "ToffeeTown" 338 (2147483648 : Int64)) ∈ gtbl := gm_t (gi_5 (List.mem_of_getElem? (i := 65) (by decide +kernel))) rfl
theorem tw_1141 : (Cond.constant "ToffeeTown" 333 (65536 : Int32)) ∈ gtbl := gm_t (gi_5 (List.mem_of_getElem? (i := 66) (by decide +kernel))) rfl
theorem tw_1142 : (Cond.methodLink "ToffeeTown" 297 yX9_placesOf) ∈ gtbl := gm_t (gi_5 (List.mem_of_getElem? (i := 67) (by decide +kernel))) rfl
theorem tw_1143 : (Cond.methodLink "ToffeeTownLaw" 135 yX11_count) ∈ gtbl := gm_t (gi_5 (List.mem_of_getElem? (i := 68) (by decide +kernel))) rfl
theorem tw_1144 : (Cond.instanceMethod yX11_count) ∈ gtbl := gm_t (gi_5 (List.mem_of_getElem? (i := 69) (by decide +kernel))) rfl
theorem tw_1145 : (Cond.selects "ToffeeTown" yX11_count yX11_count) ∈ gtbl := gm_t (gi_5 (List.mem_of_getElem? (i := 70) (by decide +kernel))) rfl
theorem tw_1146 : (Cond.code yX11_count prog_1_method_31_code 2 (some FieldType.int)) ∈ gtbl := gm_t (gi_5 (List.mem_of_getElem? (i := 71) (by decide +kernel))) rfl
theorem tw_1147 : (Cond.methodLink "ToffeeTown" 300 yX11_countTold) ∈ gtbl := gm_t (gi_5 (List.mem_of_getElem? (i := 72) (by decide +kernel))) rfl
theorem tw_1149 : (Cond.instanceMethod yX11_countTold) ∈ gtbl := gm_t (gi_5 (List.mem_of_getElem? (i := 74) (by decide +kernel))) rfl
theorem tw_1150 : (Cond.code yX11_countTold prog_1_method_34_code 2 (some FieldType.int)) ∈ gtbl := gm_t (gi_5 (List.mem_of_getElem? (i := 75) (by decide +kernel))) rfl
theorem tw_1151 : (Cond.methodLink "ToffeeTown" 303 yX11_countNow) ∈ gtbl := gm_t (gi_5 (List.mem_of_getElem? (i := 76) (by decide +kernel))) rfl
theorem tw_1153 : (Cond.instanceMethod yX11_countNow) ∈ gtbl := gm_t (gi_5 (List.mem_of_getElem? (i := 78) (by decide +kernel))) rfl
theorem tw_1154 : (Cond.code yX11_countNow prog_1_method_35_code 2 (some FieldType.int)) ∈ gtbl := gm_t (gi_5 (List.mem_of_getElem? (i := 79) (by decide +kernel))) rfl
theorem tw_1155 : (Cond.methodLink "ToffeeTownLaw" 139 yX11_image) ∈ gtbl := gm_t (gi_5 (List.mem_of_getElem? (i := 80) (by decide +kernel))) rfl
theorem tw_1156 : (Cond.instanceMethod yX11_image) ∈ gtbl := gm_t (gi_5 (List.mem_of_getElem? (i := 81) (by decide +kernel))) rfl
theorem tw_1157 : (Cond.selects "ToffeeTown" yX11_image yX11_image) ∈ gtbl := gm_t (gi_5 (List.mem_of_getElem? (i := 82) (by decide +kernel))) rfl
theorem tw_1158 : (Cond.code yX11_image prog_1_method_32_code 2 (some FieldType.int)) ∈ gtbl := gm_t (gi_5 (List.mem_of_getElem? (i := 83) (by decide +kernel))) rfl
theorem tw_1159 : (Cond.methodLink "ToffeeTown" 306 yX6_copy) ∈ gtbl := gm_t (gi_5 (List.mem_of_getElem? (i := 84) (by decide +kernel))) rfl
theorem tw_1160 : (Cond.instanceMethod yX6_copy) ∈ gtbl := gm_t (gi_5 (List.mem_of_getElem? (i := 85) (by decide +kernel))) rfl
theorem tw_1161 : (Cond.selects "ToffeeTown$Scene" yX6_copy yX6_copy) ∈ gtbl := gm_t (gi_5 (List.mem_of_getElem? (i := 86) (by decide +kernel))) rfl
theorem tw_1162 : (Cond.code yX6_copy prog_8_method_3_code 3 none) ∈ gtbl := gm_t (gi_5 (List.mem_of_getElem? (i := 87) (by decide +kernel))) rfl
theorem tw_1163 : (Cond.methodLink "ToffeeTown$Scene" 63 ⟨"java/lang/System", "arraycopy", "(Ljava/lang/Object;ILjava/lang/Object;II)V"⟩) ∈ gtbl := gm_t (gi_5 (List.mem_of_getElem? (i := 88) (by decide +kernel))) rfl
theorem tw_1164 : (Cond.methodLink "ToffeeTownLaw" 143 yX11_back) ∈ gtbl := gm_t (gi_5 (List.mem_of_getElem? (i := 89) (by decide +kernel))) rfl
theorem tw_1165 : (Cond.instanceMethod yX11_back) ∈ gtbl := gm_t (gi_5 (List.mem_of_getElem? (i := 90) (by decide +kernel))) rfl
theorem tw_1166 : (Cond.selects "ToffeeTown" yX11_back yX11_back) ∈ gtbl := gm_t (gi_5 (List.mem_of_getElem? (i := 91) (by decide +kernel))) rfl
theorem tw_1167 : (Cond.code yX11_back prog_1_method_33_code 2 (some FieldType.int)) ∈ gtbl := gm_t (gi_5 (List.mem_of_getElem? (i := 92) (by decide +kernel))) rfl
theorem tw_1168 : (Cond.classLink "ToffeeTownLaw" 10 "ToffeeTownModel") ∈ gtbl := gm_t (gi_5 (List.mem_of_getElem? (i := 93) (by decide +kernel))) rfl
theorem tw_1169 : (Cond.instantiable "ToffeeTownModel" 58) ∈ gtbl := gm_t (gi_5 (List.mem_of_getElem? (i := 94) (by decide +kernel))) rfl
theorem tw_1170 : (Cond.methodLink "ToffeeTownLaw" 12 yX12_init) ∈ gtbl := gm_t (gi_5 (List.mem_of_getElem? (i := 95) (by decide +kernel))) rfl
theorem tw_1171 : (Cond.instanceMethod yX12_init) ∈ gtbl := gm_t (gi_5 (List.mem_of_getElem? (i := 96) (by decide +kernel))) rfl
theorem tw_1172 : (Cond.code yX12_init prog_14_method_1_code 1 none) ∈ gtbl := gm_t (gi_5 (List.mem_of_getElem? (i := 97) (by decide +kernel))) rfl
theorem tw_1173 : (Cond.methodLink "ToffeeTownModel" 3 objectInit) ∈ gtbl := gm_t (gi_5 (List.mem_of_getElem? (i := 98) (by decide +kernel))) rfl
theorem tw_1174 : (Cond.fieldLink "ToffeeTownModel" 9 "ToffeeTownModel" "scalar" "[I") ∈ gtbl := gm_t (gi_5 (List.mem_of_getElem? (i := 99) (by decide +kernel))) rfl
theorem tw_1175 : (Cond.fieldLink "ToffeeTownModel" 13 "ToffeeTownModel" "place" "[I") ∈ gtbl := gm_t (gi_5 (List.mem_of_getElem? (i := 100) (by decide +kernel))) rfl
theorem tw_1176 : (Cond.fieldLink "ToffeeTownModel" 16 "ToffeeTownModel" "rocks" "[I") ∈ gtbl := gm_t (gi_5 (List.mem_of_getElem? (i := 101) (by decide +kernel))) rfl
theorem tw_1177 : (Cond.fieldLink "ToffeeTownModel" 19 "ToffeeTownModel" "hard" "[I") ∈ gtbl := gm_t (gi_5 (List.mem_of_getElem? (i := 102) (by decide +kernel))) rfl
theorem tw_1178 : (Cond.fieldLink "ToffeeTownModel" 22 "ToffeeTownModel" "heats" "[I") ∈ gtbl := gm_t (gi_5 (List.mem_of_getElem? (i := 103) (by decide +kernel))) rfl
theorem tw_1179 : (Cond.fieldLink "ToffeeTownModel" 25 "ToffeeTownModel" "noteDay" "[I") ∈ gtbl := gm_t (gi_5 (List.mem_of_getElem? (i := 104) (by decide +kernel))) rfl
theorem tw_1180 : (Cond.fieldLink "ToffeeTownModel" 28 "ToffeeTownModel" "noteHouse" "[I") ∈ gtbl := gm_t (gi_5 (List.mem_of_getElem? (i := 105) (by decide +kernel))) rfl
theorem tw_1181 : (Cond.fieldLink "ToffeeTownModel" 31 "ToffeeTownModel" "notePlace" "[I") ∈ gtbl := gm_t (gi_5 (List.mem_of_getElem? (i := 106) (by decide +kernel))) rfl
theorem tw_1182 : (Cond.fieldLink "ToffeeTownModel" 34 "ToffeeTownModel" "toldPlace" "[I") ∈ gtbl := gm_t (gi_5 (List.mem_of_getElem? (i := 107) (by decide +kernel))) rfl
theorem tw_1183 : (Cond.fieldLink "ToffeeTownModel" 37 "ToffeeTownModel" "toldRock" "[I") ∈ gtbl := gm_t (gi_5 (List.mem_of_getElem? (i := 108) (by decide +kernel))) rfl
theorem tw_1184 : (Cond.fieldLink "ToffeeTownModel" 40 "ToffeeTownModel" "toldHard" "[I") ∈ gtbl := gm_t (gi_5 (List.mem_of_getElem? (i := 109) (by decide +kernel))) rfl
theorem tw_1185 : (Cond.fieldLink "ToffeeTownModel" 43 "ToffeeTownModel" "newScalar" "[I") ∈ gtbl := gm_t (gi_5 (List.mem_of_getElem? (i := 110) (by decide +kernel))) rfl
theorem tw_1186 : (Cond.fieldLink "ToffeeTownModel" 46 "ToffeeTownModel" "newPlace" "[I") ∈ gtbl := gm_t (gi_5 (List.mem_of_getElem? (i := 111) (by decide +kernel))) rfl
theorem tw_1187 : (Cond.fieldLink "ToffeeTownModel" 49 "ToffeeTownModel" "newRock" "[I") ∈ gtbl := gm_t (gi_5 (List.mem_of_getElem? (i := 112) (by decide +kernel))) rfl
theorem tw_1188 : (Cond.fieldLink "ToffeeTownModel" 52 "ToffeeTownModel" "newHard" "[I") ∈ gtbl := gm_t (gi_5 (List.mem_of_getElem? (i := 113) (by decide +kernel))) rfl
theorem tw_1189 : (Cond.fieldLink "ToffeeTownModel" 55 "ToffeeTownModel" "newHeats" "[I") ∈ gtbl := gm_t (gi_5 (List.mem_of_getElem? (i := 114) (by decide +kernel))) rfl
theorem tw_1190 : (Cond.fieldLink "ToffeeTownModel" 151 "ToffeeTownModel" "taped" "I") ∈ gtbl := gm_t (gi_5 (List.mem_of_getElem? (i := 115) (by decide +kernel))) rfl
theorem tw_1191 : (Cond.fieldLink "ToffeeTownModel" 183 "ToffeeTownModel" "p" "I") ∈ gtbl := gm_t (gi_5 (List.mem_of_getElem? (i := 116) (by decide +kernel))) rfl
theorem tw_1192 : (Cond.fieldLink "ToffeeTownModel" 180 "ToffeeTownModel" "fault" "I") ∈ gtbl := gm_t (gi_5 (List.mem_of_getElem? (i := 117) (by decide +kernel))) rfl
theorem tw_1193 : (Cond.fieldLink "ToffeeTownModel" 210 "ToffeeTownModel" "slot" "I") ∈ gtbl := gm_t (gi_5 (List.mem_of_getElem? (i := 118) (by decide +kernel))) rfl
theorem tw_1194 : (Cond.fieldLink "ToffeeTownModel" 333 "ToffeeTownModel" "rules" "I") ∈ gtbl := gm_t (gi_5 (List.mem_of_getElem? (i := 119) (by decide +kernel))) rfl
theorem tw_1195 : (Cond.fieldLink "ToffeeTownModel" 213 "ToffeeTownModel" "entries" "I") ∈ gtbl := gm_t (gi_5 (List.mem_of_getElem? (i := 120) (by decide +kernel))) rfl
theorem tw_1196 : (Cond.fieldLink "ToffeeTownModel" 254 "ToffeeTownModel" "deep" "I") ∈ gtbl := gm_t (gi_5 (List.mem_of_getElem? (i := 121) (by decide +kernel))) rfl
theorem tw_1197 : (Cond.fieldLink "ToffeeTownModel" 216 "ToffeeTownModel" "counted" "I") ∈ gtbl := gm_t (gi_5 (List.mem_of_getElem? (i := 122) (by decide +kernel))) rfl
theorem tw_1198 : (Cond.fieldLink "ToffeeTownModel" 251 "ToffeeTownModel" "opened" "I") ∈ gtbl := gm_t (gi_5 (List.mem_of_getElem? (i := 123) (by decide +kernel))) rfl
theorem tw_1199 : (Cond.fieldLink "ToffeeTownModel" 58 "ToffeeTownModel" "words" "I") ∈ gtbl := gm_t (gi_5 (List.mem_of_getElem? (i := 124) (by decide +kernel))) rfl
theorem tw_1200 : (Cond.fieldLink "ToffeeTownModel" 62 "ToffeeTownModel" "tape" "[B") ∈ gtbl := gm_t (gi_5 (List.mem_of_getElem? (i := 125) (by decide +kernel))) rfl
theorem tw_1201 : (Cond.fieldLink "ToffeeTownModel" 66 "ToffeeTownModel" "sort" "[I") ∈ gtbl := gm_t (gi_5 (List.mem_of_getElem? (i := 126) (by decide +kernel))) rfl
theorem tw_1202 : (Cond.fieldLink "ToffeeTownModel" 69 "ToffeeTownModel" "number" "[I") ∈ gtbl := gm_t (gi_5 (List.mem_of_getElem? (i := 127) (by decide +kernel))) rfl
theorem tw_1203 : (Cond.fieldLink "ToffeeTownModel" 72 "ToffeeTownModel" "clauses" "[I") ∈ gtbl := gm_t (gi_5 (List.mem_of_getElem? (i := 128) (by decide +kernel))) rfl
theorem tw_1204 : (Cond.fieldLink "ToffeeTownModel" 75 "ToffeeTownModel" "sumAt" "[I") ∈ gtbl := gm_t (gi_5 (List.mem_of_getElem? (i := 129) (by decide +kernel))) rfl
theorem tw_1205 : (Cond.fieldLink "ToffeeTownModel" 78 "ToffeeTownModel" "testAt" "[I") ∈ gtbl := gm_t (gi_5 (List.mem_of_getElem? (i := 130) (by decide +kernel))) rfl
theorem tw_1206 : (Cond.fieldLink "ToffeeTownModel" 81 "ToffeeTownModel" "endAt" "[I") ∈ gtbl := gm_t (gi_5 (List.mem_of_getElem? (i := 131) (by decide +kernel))) rfl
theorem tw_1207 : (Cond.fieldLink "ToffeeTownModel" 84 "ToffeeTownModel" "open" "[I") ∈ gtbl := gm_t (gi_5 (List.mem_of_getElem? (i := 132) (by decide +kernel))) rfl
theorem tw_1208 : (Cond.fieldLink "ToffeeTownModel" 87 "ToffeeTownModel" "asked" "[J") ∈ gtbl := gm_t (gi_5 (List.mem_of_getElem? (i := 133) (by decide +kernel))) rfl
theorem tw_1209 : (Cond.fieldLink "ToffeeTownModel" 91 "ToffeeTownModel" "stack" "[J") ∈ gtbl := gm_t (gi_5 (List.mem_of_getElem? (i := 134) (by decide +kernel))) rfl
theorem tw_1210 : (Cond.fieldLink "ToffeeTownModel" 94 "ToffeeTownModel" "drawnHeat" "I") ∈ gtbl := gm_t (gi_5 (List.mem_of_getElem? (i := 135) (by decide +kernel))) rfl
theorem tw_1211 : (Cond.fieldLink "ToffeeTownModel" 97 "ToffeeTownModel" "byRow" "I") ∈ gtbl := gm_t (gi_5 (List.mem_of_getElem? (i := 136) (by decide +kernel))) rfl
theorem tw_1212 : (Cond.fieldLink "ToffeeTownModel" 382 "ToffeeTownModel" "isRowGone" "Z") ∈ gtbl := gm_t (gi_5 (List.mem_of_getElem? (i := 137) (by decide +kernel))) rfl
theorem tw_1213 : (Cond.fieldLink "ToffeeTownModel" 100 "ToffeeTownModel" "sinks" "[I") ∈ gtbl := gm_t (gi_5 (List.mem_of_getElem? (i := 138) (by decide +kernel))) rfl
theorem tw_1214 : (Cond.fieldLink "ToffeeTownModel" 103 "ToffeeTownModel" "past" "[I") ∈ gtbl := gm_t (gi_5 (List.mem_of_getElem? (i := 139) (by decide +kernel))) rfl
theorem tw_1215 : (Cond.fieldLink "ToffeeTownModel" 106 "ToffeeTownModel" "pastOf" "[I") ∈ gtbl := gm_t (gi_5 (List.mem_of_getElem? (i := 140) (by decide +kernel))) rfl
theorem tw_1216 : (Cond.fieldLink "ToffeeTownModel" 320 "ToffeeTownModel" "pastMany" "I") ∈ gtbl := gm_t (gi_5 (List.mem_of_getElem? (i := 141) (by decide +kernel))) rfl
theorem tw_1217 : (Cond.fieldLink "ToffeeTownModel" 418 "ToffeeTownModel" "pastAt" "I") ∈ gtbl := gm_t (gi_5 (List.mem_of_getElem? (i := 142) (by decide +kernel))) rfl
theorem tw_1218 : (Cond.fieldLink "ToffeeTownModel" 415 "ToffeeTownModel" "takesBack" "Z") ∈ gtbl := gm_t (gi_5 (List.mem_of_getElem? (i := 143) (by decide +kernel))) rfl
theorem tw_1219 : (Cond.fieldLink "ToffeeTownModel" 109 "ToffeeTownModel" "downAt" "[I") ∈ gtbl := gm_t (gi_5 (List.mem_of_getElem? (i := 144) (by decide +kernel))) rfl
theorem tw_1220 : (Cond.fieldLink "ToffeeTownModel" 112 "ToffeeTownModel" "twos" "[I") ∈ gtbl := gm_t (gi_5 (List.mem_of_getElem? (i := 145) (by decide +kernel))) rfl
theorem tw_1221 : (Cond.fieldLink "ToffeeTownModel" 115 "ToffeeTownModel" "triedRow" "[I") ∈ gtbl := gm_t (gi_5 (List.mem_of_getElem? (i := 146) (by decide +kernel))) rfl
theorem tw_1222 : (Cond.fieldLink "ToffeeTownModel" 118 "ToffeeTownModel" "bestRow" "[I") ∈ gtbl := gm_t (gi_5 (List.mem_of_getElem? (i := 147) (by decide +kernel))) rfl
theorem tw_1223 : (Cond.fieldLink "ToffeeTownModel" 121 "ToffeeTownModel" "firstHas" "[I") ∈ gtbl := gm_t (gi_5 (List.mem_of_getElem? (i := 148) (by decide +kernel))) rfl
theorem tw_1224 : (Cond.fieldLink "ToffeeTownModel" 124 "ToffeeTownModel" "secondHas" "[I") ∈ gtbl := gm_t (gi_5 (List.mem_of_getElem? (i := 149) (by decide +kernel))) rfl
theorem tw_1225 : (Cond.fieldLink "ToffeeTownModel" 127 "ToffeeTownModel" "lay" "[I") ∈ gtbl := gm_t (gi_5 (List.mem_of_getElem? (i := 150) (by decide +kernel))) rfl
theorem tw_1226 : (Cond.fieldLink "ToffeeTownModel" 130 "ToffeeTownModel" "shows" "[I") ∈ gtbl := gm_t (gi_5 (List.mem_of_getElem? (i := 151) (by decide +kernel))) rfl
theorem tw_1227 : (Cond.fieldLink "ToffeeTownModel" 133 "ToffeeTownModel" "images" "[I") ∈ gtbl := gm_t (gi_5 (List.mem_of_getElem? (i := 152) (by decide +kernel))) rfl
theorem tw_1228 : (Cond.fieldLink "ToffeeTownModel" 136 "ToffeeTownModel" "isMade" "[Z") ∈ gtbl := gm_t (gi_5 (List.mem_of_getElem? (i := 153) (by decide +kernel))) rfl
theorem tw_1229 : (Cond.fieldLink "ToffeeTownModel" 522 "ToffeeTownModel" "imageAt" "I") ∈ gtbl := gm_t (gi_5 (List.mem_of_getElem? (i := 154) (by decide +kernel))) rfl
theorem tw_1230 : (Cond.fieldLink "ToffeeTownModel" 519 "ToffeeTownModel" "goesBack" "Z") ∈ gtbl := gm_t (gi_5 (List.mem_of_getElem? (i := 155) (by decide +kernel))) rfl
theorem tw_1348 : (Cond.arrayClass FieldType.boolean) ∈ gtbl := gm_t (gi_6 (List.mem_of_getElem? (i := 33) (by decide +kernel))) rfl
theorem tw_1349 : (Cond.methodLink "ToffeeTownLaw" 17 yX12_feed) ∈ gtbl := gm_t (gi_6 (List.mem_of_getElem? (i := 34) (by decide +kernel))) rfl
theorem tw_1350 : (Cond.instanceMethod yX12_feed) ∈ gtbl := gm_t (gi_6 (List.mem_of_getElem? (i := 35) (by decide +kernel))) rfl
theorem tw_1351 : (Cond.selects "ToffeeTownModel" yX12_feed yX12_feed) ∈ gtbl := gm_t (gi_6 (List.mem_of_getElem? (i := 36) (by decide +kernel))) rfl
theorem tw_1352 : (Cond.code yX12_feed prog_14_method_9_code 6 (some FieldType.int)) ∈ gtbl := gm_t (gi_6 (List.mem_of_getElem? (i := 37) (by decide +kernel))) rfl
theorem tw_1353 : (Cond.methodLink "ToffeeTownModel" 154 yX12_put) ∈ gtbl := gm_t (gi_6 (List.mem_of_getElem? (i := 38) (by decide +kernel))) rfl
theorem tw_1355 : (Cond.instanceMethod yX12_put) ∈ gtbl := gm_t (gi_6 (List.mem_of_getElem? (i := 40) (by decide +kernel))) rfl
theorem tw_1356 : (Cond.code yX12_put prog_14_method_10_code 3 none) ∈ gtbl := gm_t (gi_6 (List.mem_of_getElem? (i := 41) (by decide +kernel))) rfl
theorem tw_1357 : (Cond.methodLink "ToffeeTownLaw" 22 yX12_end) ∈ gtbl := gm_t (gi_6 (List.mem_of_getElem? (i := 42) (by decide +kernel))) rfl
theorem tw_1358 : (Cond.instanceMethod yX12_end) ∈ gtbl := gm_t (gi_6 (List.mem_of_getElem? (i := 43) (by decide +kernel))) rfl
theorem tw_1359 : (Cond.selects "ToffeeTownModel" yX12_end yX12_end) ∈ gtbl := gm_t (gi_6 (List.mem_of_getElem? (i := 44) (by decide +kernel))) rfl
theorem tw_1360 : (Cond.code yX12_end prog_14_method_11_code 2 (some FieldType.int)) ∈ gtbl := gm_t (gi_6 (List.mem_of_getElem? (i := 45) (by decide +kernel))) rfl
theorem tw_1361 : (Cond.methodLink "ToffeeTownLaw" 27 yX12_town) ∈ gtbl := gm_t (gi_6 (List.mem_of_getElem? (i := 46) (by decide +kernel))) rfl
theorem tw_1362 : (Cond.instanceMethod yX12_town) ∈ gtbl := gm_t (gi_6 (List.mem_of_getElem? (i := 47) (by decide +kernel))) rfl
theorem tw_1363 : (Cond.selects "ToffeeTownModel" yX12_town yX12_town) ∈ gtbl := gm_t (gi_6 (List.mem_of_getElem? (i := 48) (by decide +kernel))) rfl
theorem tw_1364 : (Cond.code yX12_town prog_14_method_42_code 2 (some FieldType.int)) ∈ gtbl := gm_t (gi_6 (List.mem_of_getElem? (i := 49) (by decide +kernel))) rfl
theorem tw_1365 : (Cond.methodLink "ToffeeTownModel" 314 yX12_readsAll) ∈ gtbl := gm_t (gi_6 (List.mem_of_getElem? (i := 50) (by decide +kernel))) rfl
theorem tw_1367 : (Cond.instanceMethod yX12_readsAll) ∈ gtbl := gm_t (gi_6 (List.mem_of_getElem? (i := 52) (by decide +kernel))) rfl
theorem tw_1368 : (Cond.code yX12_readsAll prog_14_method_40_code 3 none) ∈ gtbl := gm_t (gi_6 (List.mem_of_getElem? (i := 53) (by decide +kernel))) rfl
theorem tw_1369 : (Cond.methodLink "ToffeeTownModel" 301 yX12_starts) ∈ gtbl := gm_t (gi_6 (List.mem_of_getElem? (i := 54) (by decide +kernel))) rfl
theorem tw_1371 : (Cond.instanceMethod yX12_starts) ∈ gtbl := gm_t (gi_6 (List.mem_of_getElem? (i := 56) (by decide +kernel))) rfl
theorem tw_1372 : (Cond.code yX12_starts prog_14_method_39_code 1 none) ∈ gtbl := gm_t (gi_6 (List.mem_of_getElem? (i := 57) (by decide +kernel))) rfl
theorem tw_1373 : (Cond.methodLink "ToffeeTownModel" 304 yX12_townClause) ∈ gtbl := gm_t (gi_6 (List.mem_of_getElem? (i := 58) (by decide +kernel))) rfl
theorem tw_1375 : (Cond.instanceMethod yX12_townClause) ∈ gtbl := gm_t (gi_6 (List.mem_of_getElem? (i := 60) (by decide +kernel))) rfl
theorem tw_1376 : (Cond.code yX12_townClause prog_14_method_36_code 4 none) ∈ gtbl := gm_t (gi_6 (List.mem_of_getElem? (i := 61) (by decide +kernel))) rfl
theorem tw_1377 : (Cond.methodLink "ToffeeTownModel" 203 yX12_blanks) ∈ gtbl := gm_t (gi_6 (List.mem_of_getElem? (i := 62) (by decide +kernel))) rfl
theorem tw_1379 : (Cond.instanceMethod yX12_blanks) ∈ gtbl := gm_t (gi_6 (List.mem_of_getElem? (i := 64) (by decide +kernel))) rfl
theorem tw_1380 : (Cond.code yX12_blanks prog_14_method_15_code 1 none) ∈ gtbl := gm_t (gi_6 (List.mem_of_getElem? (i := 65) (by decide +kernel))) rfl
theorem tw_1381 : (Cond.methodLink "ToffeeTownModel" 186 yX12_sign) ∈ gtbl := gm_t (gi_6 (List.mem_of_getElem? (i := 66) (by decide +kernel))) rfl
theorem tw_1383 : (Cond.instanceMethod yX12_sign) ∈ gtbl := gm_t (gi_6 (List.mem_of_getElem? (i := 68) (by decide +kernel))) rfl
theorem tw_1384 : (Cond.code yX12_sign prog_14_method_14_code 1 (some FieldType.int)) ∈ gtbl := gm_t (gi_6 (List.mem_of_getElem? (i := 69) (by decide +kernel))) rfl
theorem tw_1385 : (Cond.methodLink "ToffeeTownModel" 291 yX12_townWord) ∈ gtbl := gm_t (gi_6 (List.mem_of_getElem? (i := 70) (by decide +kernel))) rfl
theorem tw_1386 : (Cond.static yX12_townWord) ∈ gtbl := gm_t (gi_6 (List.mem_of_getElem? (i := 71) (by decide +kernel))) rfl
theorem tw_1387 : (Cond.code yX12_townWord prog_14_method_32_code 1 (some (FieldType.object "java/lang/String"))) ∈ gtbl := gm_t (gi_6 (List.mem_of_getElem? (i := 72) (by decide +kernel))) rfl
theorem tn_1388 : (Cond.stringRef "ToffeeTownModel" 278 "town") ∈ lw_tbl := List.mem_append_right _ (gi_6 (List.mem_of_getElem? (i := 73) (by decide +kernel)))
theorem tn_1389 : (Cond.stringRef "ToffeeTownModel" 172 "heat") ∈ lw_tbl := List.mem_append_right _ (gi_6 (List.mem_of_getElem? (i := 74) (by decide +kernel)))
theorem tn_1390 : (Cond.stringRef "ToffeeTownModel" 280 "house") ∈ lw_tbl := List.mem_append_right _ (gi_6 (List.mem_of_getElem? (i := 75) (by decide +kernel)))
theorem tn_1391 : (Cond.stringRef "ToffeeTownModel" 282 "join") ∈ lw_tbl := List.mem_append_right _ (gi_6 (List.mem_of_getElem? (i := 76) (by decide +kernel)))
theorem tn_1392 : (Cond.stringRef "ToffeeTownModel" 168 "rock") ∈ lw_tbl := List.mem_append_right _ (gi_6 (List.mem_of_getElem? (i := 77) (by decide +kernel)))
theorem tw_1393 : (Cond.methodLink "ToffeeTownModel" 206 yX12_isWordAt) ∈ gtbl := gm_t (gi_6 (List.mem_of_getElem? (i := 78) (by decide +kernel))) rfl
theorem tw_1395 : (Cond.instanceMethod yX12_isWordAt) ∈ gtbl := gm_t (gi_6 (List.mem_of_getElem? (i := 80) (by decide +kernel))) rfl
theorem tw_1396 : (Cond.code yX12_isWordAt prog_14_method_17_code 5 (some FieldType.boolean)) ∈ gtbl := gm_t (gi_6 (List.mem_of_getElem? (i := 81) (by decide +kernel))) rfl
theorem tw_1397 : (Cond.methodLink "ToffeeTownModel" 194 yJ0_length_8abf5) ∈ gtbl := gm_t (gi_6 (List.mem_of_getElem? (i := 82) (by decide +kernel))) rfl
theorem tw_1398 : (Cond.methodLink "ToffeeTownModel" 199 yJ0_charAt_5068e) ∈ gtbl := gm_t (gi_6 (List.mem_of_getElem? (i := 83) (by decide +kernel))) rfl
theorem tw_1399 : (Cond.methodLink "ToffeeTownModel" 219 yX12_fails) ∈ gtbl := gm_t (gi_6 (List.mem_of_getElem? (i := 84) (by decide +kernel))) rfl
theorem tw_1401 : (Cond.instanceMethod yX12_fails) ∈ gtbl := gm_t (gi_6 (List.mem_of_getElem? (i := 86) (by decide +kernel))) rfl
theorem tw_1402 : (Cond.code yX12_fails prog_14_method_13_code 3 none) ∈ gtbl := gm_t (gi_6 (List.mem_of_getElem? (i := 87) (by decide +kernel))) rfl
theorem tw_1403 : (Cond.methodLink "ToffeeTownModel" 294 yX12_isFull) ∈ gtbl := gm_t (gi_6 (List.mem_of_getElem? (i := 88) (by decide +kernel))) rfl
theorem tw_1405 : (Cond.instanceMethod yX12_isFull) ∈ gtbl := gm_t (gi_6 (List.mem_of_getElem? (i := 90) (by decide +kernel))) rfl
theorem tw_1406 : (Cond.code yX12_isFull prog_14_method_35_code 3 (some FieldType.boolean)) ∈ gtbl := gm_t (gi_6 (List.mem_of_getElem? (i := 91) (by decide +kernel))) rfl
theorem tw_1407 : (Cond.methodLink "ToffeeTownModel" 298 yX12_townPart) ∈ gtbl := gm_t (gi_6 (List.mem_of_getElem? (i := 92) (by decide +kernel))) rfl
theorem tw_1409 : (Cond.instanceMethod yX12_townPart) ∈ gtbl := gm_t (gi_6 (List.mem_of_getElem? (i := 94) (by decide +kernel))) rfl
theorem tw_1410 : (Cond.code yX12_townPart prog_14_method_34_code 4 none) ∈ gtbl := gm_t (gi_6 (List.mem_of_getElem? (i := 95) (by decide +kernel))) rfl
theorem tw_1411 : (Cond.methodLink "ToffeeTownModel" 284 yX12_amount) ∈ gtbl := gm_t (gi_6 (List.mem_of_getElem? (i := 96) (by decide +kernel))) rfl
theorem tw_1413 : (Cond.instanceMethod yX12_amount) ∈ gtbl := gm_t (gi_6 (List.mem_of_getElem? (i := 98) (by decide +kernel))) rfl
theorem tw_1414 : (Cond.code yX12_amount prog_14_method_31_code 5 (some FieldType.int)) ∈ gtbl := gm_t (gi_6 (List.mem_of_getElem? (i := 99) (by decide +kernel))) rfl
theorem tw_1415 : (Cond.constant "ToffeeTownModel" 227 (99999 : Int32)) ∈ gtbl := gm_t (gi_6 (List.mem_of_getElem? (i := 100) (by decide +kernel))) rfl
theorem tw_1416 : (Cond.methodLink "ToffeeTownModel" 228 yX12_digits) ∈ gtbl := gm_t (gi_6 (List.mem_of_getElem? (i := 101) (by decide +kernel))) rfl
theorem tw_1418 : (Cond.instanceMethod yX12_digits) ∈ gtbl := gm_t (gi_6 (List.mem_of_getElem? (i := 103) (by decide +kernel))) rfl
theorem tw_1419 : (Cond.code yX12_digits prog_14_method_21_code 4 (some FieldType.int)) ∈ gtbl := gm_t (gi_6 (List.mem_of_getElem? (i := 104) (by decide +kernel))) rfl
theorem tw_1420 : (Cond.methodLink "ToffeeTownModel" 223 yX12_isDigit) ∈ gtbl := gm_t (gi_6 (List.mem_of_getElem? (i := 105) (by decide +kernel))) rfl
theorem tw_1422 : (Cond.instanceMethod yX12_isDigit) ∈ gtbl := gm_t (gi_6 (List.mem_of_getElem? (i := 107) (by decide +kernel))) rfl
theorem tw_1423 : (Cond.code yX12_isDigit prog_14_method_16_code 1 (some FieldType.boolean)) ∈ gtbl := gm_t (gi_6 (List.mem_of_getElem? (i := 108) (by decide +kernel))) rfl
theorem tw_1424 : (Cond.constantLong "ToffeeTownModel" 190 (48 : Int64)) ∈ gtbl := gm_t (gi_6 (List.mem_of_getElem? (i := 109) (by decide +kernel))) rfl
theorem tw_1425 : (Cond.constantLong "ToffeeTownModel" 192 (57 : Int64)) ∈ gtbl := gm_t (gi_6 (List.mem_of_getElem? (i := 110) (by decide +kernel))) rfl
theorem tw_1426 : (Cond.methodLink "ToffeeTownModel" 143 yX12_in) ∈ gtbl := gm_t (gi_6 (List.mem_of_getElem? (i := 111) (by decide +kernel))) rfl
theorem tw_1427 : (Cond.static yX12_in) ∈ gtbl := gm_t (gi_6 (List.mem_of_getElem? (i := 112) (by decide +kernel))) rfl
theorem tw_1428 : (Cond.code yX12_in prog_14_method_3_code 6 (some FieldType.boolean)) ∈ gtbl := gm_t (gi_6 (List.mem_of_getElem? (i := 113) (by decide +kernel))) rfl
theorem tw_1429 : (Cond.methodLink "ToffeeTownModel" 288 yX12_joinPart) ∈ gtbl := gm_t (gi_6 (List.mem_of_getElem? (i := 114) (by decide +kernel))) rfl
theorem tw_1431 : (Cond.instanceMethod yX12_joinPart) ∈ gtbl := gm_t (gi_6 (List.mem_of_getElem? (i := 116) (by decide +kernel))) rfl
theorem tw_1432 : (Cond.code yX12_joinPart prog_14_method_33_code 5 none) ∈ gtbl := gm_t (gi_6 (List.mem_of_getElem? (i := 117) (by decide +kernel))) rfl
theorem tw_1433 : (Cond.methodLink "ToffeeTownModel" 307 yX12_goesOn) ∈ gtbl := gm_t (gi_6 (List.mem_of_getElem? (i := 118) (by decide +kernel))) rfl
theorem tw_1435 : (Cond.instanceMethod yX12_goesOn) ∈ gtbl := gm_t (gi_6 (List.mem_of_getElem? (i := 120) (by decide +kernel))) rfl
theorem tw_1436 : (Cond.code yX12_goesOn prog_14_method_38_code 2 (some FieldType.boolean)) ∈ gtbl := gm_t (gi_6 (List.mem_of_getElem? (i := 121) (by decide +kernel))) rfl
theorem tw_1437 : (Cond.methodLink "ToffeeTownModel" 310 yX12_copies) ∈ gtbl := gm_t (gi_6 (List.mem_of_getElem? (i := 122) (by decide +kernel))) rfl
theorem tw_1438 : (Cond.static yX12_copies) ∈ gtbl := gm_t (gi_6 (List.mem_of_getElem? (i := 123) (by decide +kernel))) rfl
theorem tw_1439 : (Cond.code yX12_copies prog_14_method_37_code 3 none) ∈ gtbl := gm_t (gi_6 (List.mem_of_getElem? (i := 124) (by decide +kernel))) rfl
theorem tw_1440 : (Cond.methodLink "ToffeeTownModel" 317 yX12_begins) ∈ gtbl := gm_t (gi_6 (List.mem_of_getElem? (i := 125) (by decide +kernel))) rfl
theorem tw_1442 : (Cond.instanceMethod yX12_begins) ∈ gtbl := gm_t (gi_6 (List.mem_of_getElem? (i := 127) (by decide +kernel))) rfl
theorem tw_1443 : (Cond.code yX12_begins prog_14_method_41_code 1 none) ∈ gtbl := gm_t (gi_6 (List.mem_of_getElem? (i := 128) (by decide +kernel))) rfl
theorem tw_1444 : (Cond.methodLink "ToffeeTownLaw" 31 yX12_rule) ∈ gtbl := gm_t (gi_6 (List.mem_of_getElem? (i := 129) (by decide +kernel))) rfl
theorem tw_1445 : (Cond.instanceMethod yX12_rule) ∈ gtbl := gm_t (gi_6 (List.mem_of_getElem? (i := 130) (by decide +kernel))) rfl
theorem tw_1446 : (Cond.selects "ToffeeTownModel" yX12_rule yX12_rule) ∈ gtbl := gm_t (gi_6 (List.mem_of_getElem? (i := 131) (by decide +kernel))) rfl
theorem tw_1447 : (Cond.code yX12_rule prog_14_method_44_code 3 (some FieldType.int)) ∈ gtbl := gm_t (gi_6 (List.mem_of_getElem? (i := 132) (by decide +kernel))) rfl
theorem tw_1448 : (Cond.methodLink "ToffeeTownModel" 336 yX12_ruleClause) ∈ gtbl := gm_t (gi_6 (List.mem_of_getElem? (i := 133) (by decide +kernel))) rfl
theorem tw_1450 : (Cond.instanceMethod yX12_ruleClause) ∈ gtbl := gm_t (gi_6 (List.mem_of_getElem? (i := 135) (by decide +kernel))) rfl
theorem tw_1451 : (Cond.code yX12_ruleClause prog_14_method_43_code 4 none) ∈ gtbl := gm_t (gi_6 (List.mem_of_getElem? (i := 136) (by decide +kernel))) rfl
theorem tn_1452 : (Cond.stringRef "ToffeeTownModel" 323 "pour") ∈ lw_tbl := List.mem_append_right _ (gi_6 (List.mem_of_getElem? (i := 137) (by decide +kernel)))
theorem tw_1453 : (Cond.methodLink "ToffeeTownModel" 248 yX12_sum) ∈ gtbl := gm_t (gi_6 (List.mem_of_getElem? (i := 138) (by decide +kernel))) rfl
theorem tw_1455 : (Cond.instanceMethod yX12_sum) ∈ gtbl := gm_t (gi_6 (List.mem_of_getElem? (i := 140) (by decide +kernel))) rfl
theorem tw_1456 : (Cond.code yX12_sum prog_14_method_24_code 2 none) ∈ gtbl := gm_t (gi_6 (List.mem_of_getElem? (i := 141) (by decide +kernel))) rfl
theorem tw_1457 : (Cond.methodLink "ToffeeTownModel" 245 yX12_term) ∈ gtbl := gm_t (gi_6 (List.mem_of_getElem? (i := 142) (by decide +kernel))) rfl
theorem tw_1459 : (Cond.instanceMethod yX12_term) ∈ gtbl := gm_t (gi_6 (List.mem_of_getElem? (i := 144) (by decide +kernel))) rfl
theorem tw_1460 : (Cond.code yX12_term prog_14_method_23_code 2 none) ∈ gtbl := gm_t (gi_6 (List.mem_of_getElem? (i := 145) (by decide +kernel))) rfl
theorem tw_1461 : (Cond.methodLink "ToffeeTownModel" 242 yX12_value) ∈ gtbl := gm_t (gi_6 (List.mem_of_getElem? (i := 146) (by decide +kernel))) rfl
theorem tw_1463 : (Cond.instanceMethod yX12_value) ∈ gtbl := gm_t (gi_6 (List.mem_of_getElem? (i := 148) (by decide +kernel))) rfl
theorem tw_1464 : (Cond.code yX12_value prog_14_method_22_code 3 none) ∈ gtbl := gm_t (gi_6 (List.mem_of_getElem? (i := 149) (by decide +kernel))) rfl
theorem tw_1465 : (Cond.methodLink "ToffeeTownModel" 232 yX12_isCounted) ∈ gtbl := gm_t (gi_6 (List.mem_of_getElem? (i := 150) (by decide +kernel))) rfl
theorem tw_1467 : (Cond.instanceMethod yX12_isCounted) ∈ gtbl := gm_t (gi_6 (List.mem_of_getElem? (i := 152) (by decide +kernel))) rfl
theorem tw_1468 : (Cond.code yX12_isCounted prog_14_method_20_code 2 none) ∈ gtbl := gm_t (gi_6 (List.mem_of_getElem? (i := 153) (by decide +kernel))) rfl
theorem tw_1469 : (Cond.methodLink "ToffeeTownModel" 235 yX12_entry) ∈ gtbl := gm_t (gi_6 (List.mem_of_getElem? (i := 154) (by decide +kernel))) rfl
theorem tw_1471 : (Cond.instanceMethod yX12_entry) ∈ gtbl := gm_t (gi_6 (List.mem_of_getElem? (i := 156) (by decide +kernel))) rfl
theorem tw_1472 : (Cond.code yX12_entry prog_14_method_19_code 3 none) ∈ gtbl := gm_t (gi_6 (List.mem_of_getElem? (i := 157) (by decide +kernel))) rfl
theorem tw_1473 : (Cond.methodLink "ToffeeTownModel" 238 yX12_wordOf) ∈ gtbl := gm_t (gi_6 (List.mem_of_getElem? (i := 158) (by decide +kernel))) rfl
theorem tw_1474 : (Cond.static yX12_wordOf) ∈ gtbl := gm_t (gi_6 (List.mem_of_getElem? (i := 159) (by decide +kernel))) rfl
theorem tw_1475 : (Cond.code yX12_wordOf prog_14_method_12_code 1 (some (FieldType.object "java/lang/String"))) ∈ gtbl := gm_t (gi_6 (List.mem_of_getElem? (i := 160) (by decide +kernel))) rfl
theorem tn_1476 : (Cond.stringRef "ToffeeTownModel" 158 "one") ∈ lw_tbl := List.mem_append_right _ (gi_6 (List.mem_of_getElem? (i := 161) (by decide +kernel)))
theorem tn_1477 : (Cond.stringRef "ToffeeTownModel" 160 "other") ∈ lw_tbl := List.mem_append_right _ (gi_6 (List.mem_of_getElem? (i := 162) (by decide +kernel)))
theorem tn_1478 : (Cond.stringRef "ToffeeTownModel" 162 "hard") ∈ lw_tbl := List.mem_append_right _ (gi_6 (List.mem_of_getElem? (i := 163) (by decide +kernel)))
theorem tn_1479 : (Cond.stringRef "ToffeeTownModel" 163 "place") ∈ lw_tbl := List.mem_append_right _ (gi_6 (List.mem_of_getElem? (i := 164) (by decide +kernel)))
theorem tn_1480 : (Cond.stringRef "ToffeeTownModel" 164 "placeo") ∈ lw_tbl := List.mem_append_right _ (gi_6 (List.mem_of_getElem? (i := 165) (by decide +kernel)))
theorem tn_1481 : (Cond.stringRef "ToffeeTownModel" 166 "apart") ∈ lw_tbl := List.mem_append_right _ (gi_6 (List.mem_of_getElem? (i := 166) (by decide +kernel)))
theorem tn_1482 : (Cond.stringRef "ToffeeTownModel" 170 "rocko") ∈ lw_tbl := List.mem_append_right _ (gi_6 (List.mem_of_getElem? (i := 167) (by decide +kernel)))
theorem tn_1483 : (Cond.stringRef "ToffeeTownModel" 174 "next") ∈ lw_tbl := List.mem_append_right _ (gi_6 (List.mem_of_getElem? (i := 168) (by decide +kernel)))
theorem tn_1484 : (Cond.stringRef "ToffeeTownModel" 176 "sugar") ∈ lw_tbl := List.mem_append_right _ (gi_6 (List.mem_of_getElem? (i := 169) (by decide +kernel)))
theorem tn_1485 : (Cond.stringRef "ToffeeTownModel" 178 "day") ∈ lw_tbl := List.mem_append_right _ (gi_6 (List.mem_of_getElem? (i := 170) (by decide +kernel)))
theorem tn_1486 : (Cond.stringRef "ToffeeTownModel" 325 "if") ∈ lw_tbl := List.mem_append_right _ (gi_6 (List.mem_of_getElem? (i := 171) (by decide +kernel)))
theorem tw_1487 : (Cond.methodLink "ToffeeTownModel" 327 yX12_takes) ∈ gtbl := gm_t (gi_6 (List.mem_of_getElem? (i := 172) (by decide +kernel))) rfl
theorem tw_1489 : (Cond.instanceMethod yX12_takes) ∈ gtbl := gm_t (gi_6 (List.mem_of_getElem? (i := 174) (by decide +kernel))) rfl
theorem tw_1490 : (Cond.code yX12_takes prog_14_method_18_code 3 (some FieldType.boolean)) ∈ gtbl := gm_t (gi_6 (List.mem_of_getElem? (i := 175) (by decide +kernel))) rfl
theorem tw_1491 : (Cond.methodLink "ToffeeTownModel" 330 yX12_test) ∈ gtbl := gm_t (gi_6 (List.mem_of_getElem? (i := 176) (by decide +kernel))) rfl
theorem tw_1493 : (Cond.instanceMethod yX12_test) ∈ gtbl := gm_t (gi_6 (List.mem_of_getElem? (i := 178) (by decide +kernel))) rfl
theorem tw_1494 : (Cond.code yX12_test prog_14_method_30_code 5 none) ∈ gtbl := gm_t (gi_6 (List.mem_of_getElem? (i := 179) (by decide +kernel))) rfl
theorem tw_1495 : (Cond.methodLink "ToffeeTownModel" 268 yX12_fact) ∈ gtbl := gm_t (gi_6 (List.mem_of_getElem? (i := 180) (by decide +kernel))) rfl
theorem tw_1497 : (Cond.instanceMethod yX12_fact) ∈ gtbl := gm_t (gi_6 (List.mem_of_getElem? (i := 182) (by decide +kernel))) rfl
theorem tw_1498 : (Cond.code yX12_fact prog_14_method_29_code 1 (some FieldType.boolean)) ∈ gtbl := gm_t (gi_6 (List.mem_of_getElem? (i := 183) (by decide +kernel))) rfl
theorem tn_1499 : (Cond.stringRef "ToffeeTownModel" 260 "not") ∈ lw_tbl := List.mem_append_right _ (gi_6 (List.mem_of_getElem? (i := 184) (by decide +kernel)))
theorem tw_1500 : (Cond.methodLink "ToffeeTownModel" 262 yX12_opens) ∈ gtbl := gm_t (gi_6 (List.mem_of_getElem? (i := 185) (by decide +kernel))) rfl
theorem tw_1502 : (Cond.instanceMethod yX12_opens) ∈ gtbl := gm_t (gi_6 (List.mem_of_getElem? (i := 187) (by decide +kernel))) rfl
theorem tw_1503 : (Cond.code yX12_opens prog_14_method_27_code 2 none) ∈ gtbl := gm_t (gi_6 (List.mem_of_getElem? (i := 188) (by decide +kernel))) rfl
theorem tw_1504 : (Cond.methodLink "ToffeeTownModel" 265 yX12_compared) ∈ gtbl := gm_t (gi_6 (List.mem_of_getElem? (i := 189) (by decide +kernel))) rfl
theorem tw_1506 : (Cond.instanceMethod yX12_compared) ∈ gtbl := gm_t (gi_6 (List.mem_of_getElem? (i := 191) (by decide +kernel))) rfl
theorem tw_1507 : (Cond.code yX12_compared prog_14_method_25_code 3 none) ∈ gtbl := gm_t (gi_6 (List.mem_of_getElem? (i := 192) (by decide +kernel))) rfl
theorem tw_1508 : (Cond.methodLink "ToffeeTownModel" 271 yX12_answers) ∈ gtbl := gm_t (gi_6 (List.mem_of_getElem? (i := 193) (by decide +kernel))) rfl
theorem tw_1510 : (Cond.instanceMethod yX12_answers) ∈ gtbl := gm_t (gi_6 (List.mem_of_getElem? (i := 195) (by decide +kernel))) rfl
theorem tw_1511 : (Cond.code yX12_answers prog_14_method_28_code 2 none) ∈ gtbl := gm_t (gi_6 (List.mem_of_getElem? (i := 196) (by decide +kernel))) rfl
theorem tw_1512 : (Cond.methodLink "ToffeeTownModel" 257 yX12_top) ∈ gtbl := gm_t (gi_6 (List.mem_of_getElem? (i := 197) (by decide +kernel))) rfl
theorem tw_1514 : (Cond.instanceMethod yX12_top) ∈ gtbl := gm_t (gi_6 (List.mem_of_getElem? (i := 199) (by decide +kernel))) rfl
theorem tw_1515 : (Cond.code yX12_top prog_14_method_26_code 1 (some FieldType.int)) ∈ gtbl := gm_t (gi_6 (List.mem_of_getElem? (i := 200) (by decide +kernel))) rfl
theorem tn_1516 : (Cond.stringRef "ToffeeTownModel" 274 "and") ∈ lw_tbl := List.mem_append_right _ (gi_6 (List.mem_of_getElem? (i := 201) (by decide +kernel)))
theorem tn_1517 : (Cond.stringRef "ToffeeTownModel" 276 "or") ∈ lw_tbl := List.mem_append_right _ (gi_6 (List.mem_of_getElem? (i := 202) (by decide +kernel)))
theorem tw_1518 : (Cond.methodLink "ToffeeTownLaw" 35 yX12_force) ∈ gtbl := gm_t (gi_6 (List.mem_of_getElem? (i := 203) (by decide +kernel))) rfl
theorem tw_1519 : (Cond.instanceMethod yX12_force) ∈ gtbl := gm_t (gi_6 (List.mem_of_getElem? (i := 204) (by decide +kernel))) rfl
theorem tw_1520 : (Cond.selects "ToffeeTownModel" yX12_force yX12_force) ∈ gtbl := gm_t (gi_6 (List.mem_of_getElem? (i := 205) (by decide +kernel))) rfl
theorem tw_1521 : (Cond.code yX12_force prog_14_method_45_code 3 (some FieldType.int)) ∈ gtbl := gm_t (gi_6 (List.mem_of_getElem? (i := 206) (by decide +kernel))) rfl
theorem tw_1522 : (Cond.constantLong "ToffeeTownModel" 339 (-1 : Int64)) ∈ gtbl := gm_t (gi_6 (List.mem_of_getElem? (i := 207) (by decide +kernel))) rfl
theorem tw_1523 : (Cond.methodLink "ToffeeTownLaw" 40 yX12_house) ∈ gtbl := gm_t (gi_6 (List.mem_of_getElem? (i := 208) (by decide +kernel))) rfl
theorem tw_1524 : (Cond.instanceMethod yX12_house) ∈ gtbl := gm_t (gi_6 (List.mem_of_getElem? (i := 209) (by decide +kernel))) rfl
theorem tw_1525 : (Cond.selects "ToffeeTownModel" yX12_house yX12_house) ∈ gtbl := gm_t (gi_6 (List.mem_of_getElem? (i := 210) (by decide +kernel))) rfl
theorem tw_1526 : (Cond.code yX12_house prog_14_method_56_code 3 (some FieldType.int)) ∈ gtbl := gm_t (gi_6 (List.mem_of_getElem? (i := 211) (by decide +kernel))) rfl
theorem tw_1527 : (Cond.methodLink "ToffeeTownModel" 147 yX12_isHouse) ∈ gtbl := gm_t (gi_6 (List.mem_of_getElem? (i := 212) (by decide +kernel))) rfl
theorem tw_1529 : (Cond.instanceMethod yX12_isHouse) ∈ gtbl := gm_t (gi_6 (List.mem_of_getElem? (i := 214) (by decide +kernel))) rfl
theorem tw_1530 : (Cond.code yX12_isHouse prog_14_method_7_code 2 (some FieldType.boolean)) ∈ gtbl := gm_t (gi_6 (List.mem_of_getElem? (i := 215) (by decide +kernel))) rfl
theorem tw_1531 : (Cond.methodLink "ToffeeTownModel" 359 yX12_joinedTo) ∈ gtbl := gm_t (gi_6 (List.mem_of_getElem? (i := 216) (by decide +kernel))) rfl
theorem tw_1533 : (Cond.instanceMethod yX12_joinedTo) ∈ gtbl := gm_t (gi_6 (List.mem_of_getElem? (i := 218) (by decide +kernel))) rfl
theorem tw_1534 : (Cond.code yX12_joinedTo prog_14_method_55_code 4 (some FieldType.int)) ∈ gtbl := gm_t (gi_6 (List.mem_of_getElem? (i := 219) (by decide +kernel))) rfl
theorem tw_1535 : (Cond.methodLink "ToffeeTownModel" 362 yX12_heat) ∈ gtbl := gm_t (gi_6 (List.mem_of_getElem? (i := 220) (by decide +kernel))) rfl
theorem tw_1537 : (Cond.instanceMethod yX12_heat) ∈ gtbl := gm_t (gi_6 (List.mem_of_getElem? (i := 222) (by decide +kernel))) rfl
theorem tw_1538 : (Cond.code yX12_heat prog_14_method_51_code 2 (some FieldType.int)) ∈ gtbl := gm_t (gi_6 (List.mem_of_getElem? (i := 223) (by decide +kernel))) rfl
theorem tw_1539 : (Cond.methodLink "ToffeeTownModel" 353 yX12_toldHeat) ∈ gtbl := gm_t (gi_6 (List.mem_of_getElem? (i := 224) (by decide +kernel))) rfl
theorem tw_1541 : (Cond.instanceMethod yX12_toldHeat) ∈ gtbl := gm_t (gi_6 (List.mem_of_getElem? (i := 226) (by decide +kernel))) rfl
theorem tw_1542 : (Cond.code yX12_toldHeat prog_14_method_50_code 2 (some FieldType.int)) ∈ gtbl := gm_t (gi_6 (List.mem_of_getElem? (i := 227) (by decide +kernel))) rfl
theorem tw_1543 : (Cond.methodLink "ToffeeTownModel" 364 yX12_blockOf) ∈ gtbl := gm_t (gi_6 (List.mem_of_getElem? (i := 228) (by decide +kernel))) rfl
theorem tw_1545 : (Cond.instanceMethod yX12_blockOf) ∈ gtbl := gm_t (gi_6 (List.mem_of_getElem? (i := 230) (by decide +kernel))) rfl
theorem tw_1546 : (Cond.code yX12_blockOf prog_14_method_52_code 8 (some FieldType.int)) ∈ gtbl := gm_t (gi_6 (List.mem_of_getElem? (i := 231) (by decide +kernel))) rfl
theorem tw_1547 : (Cond.methodLink "ToffeeTownModel" 356 yX12_has) ∈ gtbl := gm_t (gi_6 (List.mem_of_getElem? (i := 232) (by decide +kernel))) rfl
theorem tw_1548 : (Cond.static yX12_has) ∈ gtbl := gm_t (gi_6 (List.mem_of_getElem? (i := 233) (by decide +kernel))) rfl
theorem tw_1549 : (Cond.code yX12_has prog_14_method_5_code 2 (some FieldType.boolean)) ∈ gtbl := gm_t (gi_6 (List.mem_of_getElem? (i := 234) (by decide +kernel))) rfl
theorem tw_1550 : (Cond.methodLink "ToffeeTownModel" 367 yX12_isFast) ∈ gtbl := gm_t (gi_6 (List.mem_of_getElem? (i := 235) (by decide +kernel))) rfl
theorem tw_1552 : (Cond.instanceMethod yX12_isFast) ∈ gtbl := gm_t (gi_6 (List.mem_of_getElem? (i := 237) (by decide +kernel))) rfl
theorem tw_1553 : (Cond.code yX12_isFast prog_14_method_53_code 4 (some FieldType.boolean)) ∈ gtbl := gm_t (gi_6 (List.mem_of_getElem? (i := 238) (by decide +kernel))) rfl
theorem tw_1554 : (Cond.methodLink "ToffeeTownLaw" 44 yX12_pourOf) ∈ gtbl := gm_t (gi_6 (List.mem_of_getElem? (i := 239) (by decide +kernel))) rfl
theorem tw_1555 : (Cond.instanceMethod yX12_pourOf) ∈ gtbl := gm_t (gi_7 (List.mem_of_getElem? (i := 0) (by decide +kernel))) rfl
theorem tw_1556 : (Cond.selects "ToffeeTownModel" yX12_pourOf yX12_pourOf) ∈ gtbl := gm_t (gi_7 (List.mem_of_getElem? (i := 1) (by decide +kernel))) rfl
theorem tw_1557 : (Cond.code yX12_pourOf prog_14_method_57_code 3 (some FieldType.int)) ∈ gtbl := gm_t (gi_7 (List.mem_of_getElem? (i := 2) (by decide +kernel))) rfl
theorem tw_1558 : (Cond.methodLink "ToffeeTownModel" 370 yX12_areTwo) ∈ gtbl := gm_t (gi_7 (List.mem_of_getElem? (i := 3) (by decide +kernel))) rfl
theorem tw_1560 : (Cond.instanceMethod yX12_areTwo) ∈ gtbl := gm_t (gi_7 (List.mem_of_getElem? (i := 5) (by decide +kernel))) rfl
theorem tw_1561 : (Cond.code yX12_areTwo prog_14_method_8_code 3 (some FieldType.boolean)) ∈ gtbl := gm_t (gi_7 (List.mem_of_getElem? (i := 6) (by decide +kernel))) rfl
theorem tw_1562 : (Cond.methodLink "ToffeeTownLaw" 69 yX12_undo) ∈ gtbl := gm_t (gi_7 (List.mem_of_getElem? (i := 7) (by decide +kernel))) rfl
theorem tw_1563 : (Cond.instanceMethod yX12_undo) ∈ gtbl := gm_t (gi_7 (List.mem_of_getElem? (i := 8) (by decide +kernel))) rfl
theorem tw_1564 : (Cond.selects "ToffeeTownModel" yX12_undo yX12_undo) ∈ gtbl := gm_t (gi_7 (List.mem_of_getElem? (i := 9) (by decide +kernel))) rfl
theorem tw_1565 : (Cond.code yX12_undo prog_14_method_71_code 1 (some FieldType.int)) ∈ gtbl := gm_t (gi_7 (List.mem_of_getElem? (i := 10) (by decide +kernel))) rfl
theorem tw_1566 : (Cond.methodLink "ToffeeTownModel" 428 yX12_movesAll) ∈ gtbl := gm_t (gi_7 (List.mem_of_getElem? (i := 11) (by decide +kernel))) rfl
theorem tw_1568 : (Cond.instanceMethod yX12_movesAll) ∈ gtbl := gm_t (gi_7 (List.mem_of_getElem? (i := 13) (by decide +kernel))) rfl
theorem tw_1569 : (Cond.code yX12_movesAll prog_14_method_69_code 4 none) ∈ gtbl := gm_t (gi_7 (List.mem_of_getElem? (i := 14) (by decide +kernel))) rfl
theorem tw_1570 : (Cond.methodLink "ToffeeTownModel" 421 yX12_moves) ∈ gtbl := gm_t (gi_7 (List.mem_of_getElem? (i := 15) (by decide +kernel))) rfl
theorem tw_1572 : (Cond.instanceMethod yX12_moves) ∈ gtbl := gm_t (gi_7 (List.mem_of_getElem? (i := 17) (by decide +kernel))) rfl
theorem tw_1573 : (Cond.code yX12_moves prog_14_method_67_code 3 (some FieldType.int)) ∈ gtbl := gm_t (gi_7 (List.mem_of_getElem? (i := 18) (by decide +kernel))) rfl
theorem tw_1574 : (Cond.methodLink "ToffeeTownModel" 424 yX12_movesRow) ∈ gtbl := gm_t (gi_7 (List.mem_of_getElem? (i := 19) (by decide +kernel))) rfl
theorem tw_1576 : (Cond.instanceMethod yX12_movesRow) ∈ gtbl := gm_t (gi_7 (List.mem_of_getElem? (i := 21) (by decide +kernel))) rfl
theorem tw_1577 : (Cond.code yX12_movesRow prog_14_method_68_code 3 none) ∈ gtbl := gm_t (gi_7 (List.mem_of_getElem? (i := 22) (by decide +kernel))) rfl
theorem tw_1578 : (Cond.methodLink "ToffeeTownLaw" 48 yX12_day) ∈ gtbl := gm_t (gi_7 (List.mem_of_getElem? (i := 23) (by decide +kernel))) rfl
theorem tw_1579 : (Cond.instanceMethod yX12_day) ∈ gtbl := gm_t (gi_7 (List.mem_of_getElem? (i := 24) (by decide +kernel))) rfl
theorem tw_1580 : (Cond.selects "ToffeeTownModel" yX12_day yX12_day) ∈ gtbl := gm_t (gi_7 (List.mem_of_getElem? (i := 25) (by decide +kernel))) rfl
theorem tw_1581 : (Cond.code yX12_day prog_14_method_72_code 1 (some FieldType.int)) ∈ gtbl := gm_t (gi_7 (List.mem_of_getElem? (i := 26) (by decide +kernel))) rfl
theorem tw_1582 : (Cond.methodLink "ToffeeTownModel" 432 yX12_isTown) ∈ gtbl := gm_t (gi_7 (List.mem_of_getElem? (i := 27) (by decide +kernel))) rfl
theorem tw_1584 : (Cond.instanceMethod yX12_isTown) ∈ gtbl := gm_t (gi_7 (List.mem_of_getElem? (i := 29) (by decide +kernel))) rfl
theorem tw_1585 : (Cond.code yX12_isTown prog_14_method_6_code 1 (some FieldType.boolean)) ∈ gtbl := gm_t (gi_7 (List.mem_of_getElem? (i := 30) (by decide +kernel))) rfl
theorem tw_1586 : (Cond.methodLink "ToffeeTownModel" 435 yX12_keepsAct) ∈ gtbl := gm_t (gi_7 (List.mem_of_getElem? (i := 31) (by decide +kernel))) rfl
theorem tw_1588 : (Cond.instanceMethod yX12_keepsAct) ∈ gtbl := gm_t (gi_7 (List.mem_of_getElem? (i := 33) (by decide +kernel))) rfl
theorem tw_1589 : (Cond.code yX12_keepsAct prog_14_method_70_code 2 none) ∈ gtbl := gm_t (gi_7 (List.mem_of_getElem? (i := 34) (by decide +kernel))) rfl
theorem tw_1590 : (Cond.methodLink "ToffeeTownModel" 412 yX12_goes) ∈ gtbl := gm_t (gi_7 (List.mem_of_getElem? (i := 35) (by decide +kernel))) rfl
theorem tw_1592 : (Cond.instanceMethod yX12_goes) ∈ gtbl := gm_t (gi_7 (List.mem_of_getElem? (i := 37) (by decide +kernel))) rfl
theorem tw_1593 : (Cond.code yX12_goes prog_14_method_65_code 5 (some FieldType.int)) ∈ gtbl := gm_t (gi_7 (List.mem_of_getElem? (i := 38) (by decide +kernel))) rfl
theorem tw_1594 : (Cond.methodLink "ToffeeTownModel" 400 yX12_choice) ∈ gtbl := gm_t (gi_7 (List.mem_of_getElem? (i := 39) (by decide +kernel))) rfl
theorem tw_1596 : (Cond.instanceMethod yX12_choice) ∈ gtbl := gm_t (gi_7 (List.mem_of_getElem? (i := 41) (by decide +kernel))) rfl
theorem tw_1597 : (Cond.code yX12_choice prog_14_method_62_code 8 (some FieldType.int)) ∈ gtbl := gm_t (gi_7 (List.mem_of_getElem? (i := 42) (by decide +kernel))) rfl
theorem tw_1598 : (Cond.methodLink "ToffeeTownModel" 386 yX12_canHarden) ∈ gtbl := gm_t (gi_7 (List.mem_of_getElem? (i := 43) (by decide +kernel))) rfl
theorem tw_1600 : (Cond.instanceMethod yX12_canHarden) ∈ gtbl := gm_t (gi_7 (List.mem_of_getElem? (i := 45) (by decide +kernel))) rfl
theorem tw_1601 : (Cond.code yX12_canHarden prog_14_method_59_code 3 (some FieldType.boolean)) ∈ gtbl := gm_t (gi_7 (List.mem_of_getElem? (i := 46) (by decide +kernel))) rfl
theorem tw_1602 : (Cond.constantLong "ToffeeTownModel" 373 (8 : Int64)) ∈ gtbl := gm_t (gi_7 (List.mem_of_getElem? (i := 47) (by decide +kernel))) rfl
theorem tw_1603 : (Cond.methodLink "ToffeeTownModel" 389 yX12_sumOf) ∈ gtbl := gm_t (gi_7 (List.mem_of_getElem? (i := 48) (by decide +kernel))) rfl
theorem tw_1605 : (Cond.instanceMethod yX12_sumOf) ∈ gtbl := gm_t (gi_7 (List.mem_of_getElem? (i := 50) (by decide +kernel))) rfl
theorem tw_1606 : (Cond.code yX12_sumOf prog_14_method_61_code 3 (some FieldType.long)) ∈ gtbl := gm_t (gi_7 (List.mem_of_getElem? (i := 51) (by decide +kernel))) rfl
theorem tw_1607 : (Cond.methodLink "ToffeeTownModel" 375 yX12_differ) ∈ gtbl := gm_t (gi_7 (List.mem_of_getElem? (i := 52) (by decide +kernel))) rfl
theorem tw_1608 : (Cond.static yX12_differ) ∈ gtbl := gm_t (gi_7 (List.mem_of_getElem? (i := 53) (by decide +kernel))) rfl
theorem tw_1609 : (Cond.code yX12_differ prog_14_method_60_code 2 (some FieldType.int)) ∈ gtbl := gm_t (gi_7 (List.mem_of_getElem? (i := 54) (by decide +kernel))) rfl
theorem tw_1610 : (Cond.methodLink "ToffeeTownModel" 378 yX12_wanted) ∈ gtbl := gm_t (gi_7 (List.mem_of_getElem? (i := 55) (by decide +kernel))) rfl
theorem tw_1612 : (Cond.instanceMethod yX12_wanted) ∈ gtbl := gm_t (gi_7 (List.mem_of_getElem? (i := 57) (by decide +kernel))) rfl
theorem tw_1613 : (Cond.code yX12_wanted prog_14_method_46_code 3 (some FieldType.long)) ∈ gtbl := gm_t (gi_7 (List.mem_of_getElem? (i := 58) (by decide +kernel))) rfl
theorem tw_1614 : (Cond.methodLink "ToffeeTownModel" 341 yX12_answer) ∈ gtbl := gm_t (gi_7 (List.mem_of_getElem? (i := 59) (by decide +kernel))) rfl
theorem tw_1616 : (Cond.instanceMethod yX12_answer) ∈ gtbl := gm_t (gi_7 (List.mem_of_getElem? (i := 61) (by decide +kernel))) rfl
theorem tw_1617 : (Cond.code yX12_answer prog_14_method_49_code 8 (some FieldType.long)) ∈ gtbl := gm_t (gi_7 (List.mem_of_getElem? (i := 62) (by decide +kernel))) rfl
theorem tw_1618 : (Cond.methodLink "ToffeeTownModel" 349 yX12_both) ∈ gtbl := gm_t (gi_7 (List.mem_of_getElem? (i := 63) (by decide +kernel))) rfl
theorem tw_1619 : (Cond.static yX12_both) ∈ gtbl := gm_t (gi_7 (List.mem_of_getElem? (i := 64) (by decide +kernel))) rfl
theorem tw_1620 : (Cond.code yX12_both prog_14_method_48_code 5 (some FieldType.long)) ∈ gtbl := gm_t (gi_7 (List.mem_of_getElem? (i := 65) (by decide +kernel))) rfl
theorem tw_1621 : (Cond.methodLink "ToffeeTownModel" 345 yX12_truth) ∈ gtbl := gm_t (gi_7 (List.mem_of_getElem? (i := 66) (by decide +kernel))) rfl
theorem tw_1622 : (Cond.static yX12_truth) ∈ gtbl := gm_t (gi_7 (List.mem_of_getElem? (i := 67) (by decide +kernel))) rfl
theorem tw_1623 : (Cond.code yX12_truth prog_14_method_47_code 1 (some FieldType.long)) ∈ gtbl := gm_t (gi_7 (List.mem_of_getElem? (i := 68) (by decide +kernel))) rfl
theorem tw_1624 : (Cond.methodLink "ToffeeTownModel" 396 yX12_joins) ∈ gtbl := gm_t (gi_7 (List.mem_of_getElem? (i := 69) (by decide +kernel))) rfl
theorem tw_1626 : (Cond.instanceMethod yX12_joins) ∈ gtbl := gm_t (gi_7 (List.mem_of_getElem? (i := 71) (by decide +kernel))) rfl
theorem tw_1627 : (Cond.code yX12_joins prog_14_method_58_code 4 none) ∈ gtbl := gm_t (gi_7 (List.mem_of_getElem? (i := 72) (by decide +kernel))) rfl
theorem tw_1628 : (Cond.methodLink "ToffeeTownModel" 403 yX12_laysSinks) ∈ gtbl := gm_t (gi_7 (List.mem_of_getElem? (i := 73) (by decide +kernel))) rfl
theorem tw_1630 : (Cond.instanceMethod yX12_laysSinks) ∈ gtbl := gm_t (gi_7 (List.mem_of_getElem? (i := 75) (by decide +kernel))) rfl
theorem tw_1631 : (Cond.code yX12_laysSinks prog_14_method_63_code 6 none) ∈ gtbl := gm_t (gi_7 (List.mem_of_getElem? (i := 76) (by decide +kernel))) rfl
theorem tw_1632 : (Cond.methodLink "ToffeeTownModel" 393 yX12_bits) ∈ gtbl := gm_t (gi_7 (List.mem_of_getElem? (i := 77) (by decide +kernel))) rfl
theorem tw_1633 : (Cond.static yX12_bits) ∈ gtbl := gm_t (gi_7 (List.mem_of_getElem? (i := 78) (by decide +kernel))) rfl
theorem tw_1634 : (Cond.code yX12_bits prog_14_method_4_code 3 (some FieldType.int)) ∈ gtbl := gm_t (gi_7 (List.mem_of_getElem? (i := 79) (by decide +kernel))) rfl
theorem tw_1635 : (Cond.methodLink "ToffeeTownModel" 406 yX12_isInRiver) ∈ gtbl := gm_t (gi_7 (List.mem_of_getElem? (i := 80) (by decide +kernel))) rfl
theorem tw_1637 : (Cond.instanceMethod yX12_isInRiver) ∈ gtbl := gm_t (gi_7 (List.mem_of_getElem? (i := 82) (by decide +kernel))) rfl
theorem tw_1638 : (Cond.code yX12_isInRiver prog_14_method_54_code 2 (some FieldType.boolean)) ∈ gtbl := gm_t (gi_7 (List.mem_of_getElem? (i := 83) (by decide +kernel))) rfl
theorem tw_1639 : (Cond.methodLink "ToffeeTownModel" 409 yX12_floods) ∈ gtbl := gm_t (gi_7 (List.mem_of_getElem? (i := 84) (by decide +kernel))) rfl
theorem tw_1641 : (Cond.instanceMethod yX12_floods) ∈ gtbl := gm_t (gi_7 (List.mem_of_getElem? (i := 86) (by decide +kernel))) rfl
theorem tw_1642 : (Cond.code yX12_floods prog_14_method_64_code 3 none) ∈ gtbl := gm_t (gi_7 (List.mem_of_getElem? (i := 87) (by decide +kernel))) rfl
theorem tw_1643 : (Cond.methodLink "ToffeeTownLaw" 52 yX12_crack) ∈ gtbl := gm_t (gi_7 (List.mem_of_getElem? (i := 88) (by decide +kernel))) rfl
theorem tw_1644 : (Cond.instanceMethod yX12_crack) ∈ gtbl := gm_t (gi_7 (List.mem_of_getElem? (i := 89) (by decide +kernel))) rfl
theorem tw_1645 : (Cond.selects "ToffeeTownModel" yX12_crack yX12_crack) ∈ gtbl := gm_t (gi_7 (List.mem_of_getElem? (i := 90) (by decide +kernel))) rfl
theorem tw_1646 : (Cond.code yX12_crack prog_14_method_73_code 4 (some FieldType.int)) ∈ gtbl := gm_t (gi_7 (List.mem_of_getElem? (i := 91) (by decide +kernel))) rfl
theorem tw_1647 : (Cond.methodLink "ToffeeTownLaw" 57 yX12_pour) ∈ gtbl := gm_t (gi_7 (List.mem_of_getElem? (i := 92) (by decide +kernel))) rfl
theorem tw_1648 : (Cond.instanceMethod yX12_pour) ∈ gtbl := gm_t (gi_7 (List.mem_of_getElem? (i := 93) (by decide +kernel))) rfl
theorem tw_1649 : (Cond.selects "ToffeeTownModel" yX12_pour yX12_pour) ∈ gtbl := gm_t (gi_7 (List.mem_of_getElem? (i := 94) (by decide +kernel))) rfl
theorem tw_1650 : (Cond.code yX12_pour prog_14_method_75_code 4 (some FieldType.int)) ∈ gtbl := gm_t (gi_7 (List.mem_of_getElem? (i := 95) (by decide +kernel))) rfl
theorem tw_1651 : (Cond.constantLong "ToffeeTownModel" 438 (9 : Int64)) ∈ gtbl := gm_t (gi_7 (List.mem_of_getElem? (i := 96) (by decide +kernel))) rfl
theorem tw_1652 : (Cond.methodLink "ToffeeTownModel" 440 yX12_canPour) ∈ gtbl := gm_t (gi_7 (List.mem_of_getElem? (i := 97) (by decide +kernel))) rfl
theorem tw_1654 : (Cond.instanceMethod yX12_canPour) ∈ gtbl := gm_t (gi_7 (List.mem_of_getElem? (i := 99) (by decide +kernel))) rfl
theorem tw_1655 : (Cond.code yX12_canPour prog_14_method_74_code 3 (some FieldType.boolean)) ∈ gtbl := gm_t (gi_7 (List.mem_of_getElem? (i := 100) (by decide +kernel))) rfl
theorem tw_1656 : (Cond.methodLink "ToffeeTownLaw" 61 yX12_rock) ∈ gtbl := gm_t (gi_7 (List.mem_of_getElem? (i := 101) (by decide +kernel))) rfl
theorem tw_1657 : (Cond.instanceMethod yX12_rock) ∈ gtbl := gm_t (gi_7 (List.mem_of_getElem? (i := 102) (by decide +kernel))) rfl
theorem tw_1658 : (Cond.selects "ToffeeTownModel" yX12_rock yX12_rock) ∈ gtbl := gm_t (gi_7 (List.mem_of_getElem? (i := 103) (by decide +kernel))) rfl
theorem tw_1659 : (Cond.code yX12_rock prog_14_method_76_code 3 (some FieldType.int)) ∈ gtbl := gm_t (gi_7 (List.mem_of_getElem? (i := 104) (by decide +kernel))) rfl
theorem tw_1660 : (Cond.methodLink "ToffeeTownLaw" 65 yX12_ice) ∈ gtbl := gm_t (gi_7 (List.mem_of_getElem? (i := 105) (by decide +kernel))) rfl
theorem tw_1661 : (Cond.instanceMethod yX12_ice) ∈ gtbl := gm_t (gi_7 (List.mem_of_getElem? (i := 106) (by decide +kernel))) rfl
theorem tw_1662 : (Cond.selects "ToffeeTownModel" yX12_ice yX12_ice) ∈ gtbl := gm_t (gi_7 (List.mem_of_getElem? (i := 107) (by decide +kernel))) rfl
theorem tw_1663 : (Cond.code yX12_ice prog_14_method_77_code 3 (some FieldType.int)) ∈ gtbl := gm_t (gi_7 (List.mem_of_getElem? (i := 108) (by decide +kernel))) rfl
theorem tw_1664 : (Cond.methodLink "ToffeeTownLaw" 73 yX12_ahead) ∈ gtbl := gm_t (gi_7 (List.mem_of_getElem? (i := 109) (by decide +kernel))) rfl
theorem tw_1665 : (Cond.instanceMethod yX12_ahead) ∈ gtbl := gm_t (gi_7 (List.mem_of_getElem? (i := 110) (by decide +kernel))) rfl
theorem tw_1666 : (Cond.selects "ToffeeTownModel" yX12_ahead yX12_ahead) ∈ gtbl := gm_t (gi_7 (List.mem_of_getElem? (i := 111) (by decide +kernel))) rfl
theorem tw_1667 : (Cond.code yX12_ahead prog_14_method_83_code 5 (some FieldType.int)) ∈ gtbl := gm_t (gi_7 (List.mem_of_getElem? (i := 112) (by decide +kernel))) rfl
theorem tw_1668 : (Cond.constantLong "ToffeeTownModel" 452 (2 : Int64)) ∈ gtbl := gm_t (gi_7 (List.mem_of_getElem? (i := 113) (by decide +kernel))) rfl
theorem tw_1669 : (Cond.constantLong "ToffeeTownModel" 454 (100 : Int64)) ∈ gtbl := gm_t (gi_7 (List.mem_of_getElem? (i := 114) (by decide +kernel))) rfl
theorem tw_1670 : (Cond.methodLink "ToffeeTownModel" 456 yX12_keepsAll) ∈ gtbl := gm_t (gi_7 (List.mem_of_getElem? (i := 115) (by decide +kernel))) rfl
theorem tw_1672 : (Cond.instanceMethod yX12_keepsAll) ∈ gtbl := gm_t (gi_7 (List.mem_of_getElem? (i := 117) (by decide +kernel))) rfl
theorem tw_1673 : (Cond.code yX12_keepsAll prog_14_method_78_code 1 none) ∈ gtbl := gm_t (gi_7 (List.mem_of_getElem? (i := 118) (by decide +kernel))) rfl
theorem tw_1674 : (Cond.methodLink "ToffeeTownModel" 443 yX12_carriesAll) ∈ gtbl := gm_t (gi_7 (List.mem_of_getElem? (i := 119) (by decide +kernel))) rfl
theorem tw_1676 : (Cond.instanceMethod yX12_carriesAll) ∈ gtbl := gm_t (gi_7 (List.mem_of_getElem? (i := 121) (by decide +kernel))) rfl
theorem tw_1677 : (Cond.code yX12_carriesAll prog_14_method_111_code 3 none) ∈ gtbl := gm_t (gi_7 (List.mem_of_getElem? (i := 122) (by decide +kernel))) rfl
theorem tw_1678 : (Cond.methodLink "ToffeeTownModel" 525 yX12_carryRow) ∈ gtbl := gm_t (gi_7 (List.mem_of_getElem? (i := 123) (by decide +kernel))) rfl
theorem tw_1680 : (Cond.instanceMethod yX12_carryRow) ∈ gtbl := gm_t (gi_7 (List.mem_of_getElem? (i := 125) (by decide +kernel))) rfl
theorem tw_1681 : (Cond.code yX12_carryRow prog_14_method_110_code 3 none) ∈ gtbl := gm_t (gi_7 (List.mem_of_getElem? (i := 126) (by decide +kernel))) rfl
theorem tw_1682 : (Cond.methodLink "ToffeeTownModel" 446 yX12_goFor) ∈ gtbl := gm_t (gi_7 (List.mem_of_getElem? (i := 127) (by decide +kernel))) rfl
theorem tw_1684 : (Cond.instanceMethod yX12_goFor) ∈ gtbl := gm_t (gi_7 (List.mem_of_getElem? (i := 129) (by decide +kernel))) rfl
theorem tw_1685 : (Cond.code yX12_goFor prog_14_method_66_code 3 none) ∈ gtbl := gm_t (gi_7 (List.mem_of_getElem? (i := 130) (by decide +kernel))) rfl
theorem tw_1686 : (Cond.methodLink "ToffeeTownModel" 459 yX12_inRiver) ∈ gtbl := gm_t (gi_7 (List.mem_of_getElem? (i := 131) (by decide +kernel))) rfl
theorem tw_1688 : (Cond.instanceMethod yX12_inRiver) ∈ gtbl := gm_t (gi_7 (List.mem_of_getElem? (i := 133) (by decide +kernel))) rfl
theorem tw_1689 : (Cond.code yX12_inRiver prog_14_method_80_code 3 (some FieldType.int)) ∈ gtbl := gm_t (gi_7 (List.mem_of_getElem? (i := 134) (by decide +kernel))) rfl
theorem tw_1690 : (Cond.methodLink "ToffeeTownModel" 449 yX12_laysBack) ∈ gtbl := gm_t (gi_7 (List.mem_of_getElem? (i := 135) (by decide +kernel))) rfl
theorem tw_1692 : (Cond.instanceMethod yX12_laysBack) ∈ gtbl := gm_t (gi_7 (List.mem_of_getElem? (i := 137) (by decide +kernel))) rfl
theorem tw_1693 : (Cond.code yX12_laysBack prog_14_method_79_code 1 none) ∈ gtbl := gm_t (gi_7 (List.mem_of_getElem? (i := 138) (by decide +kernel))) rfl
theorem tw_1694 : (Cond.methodLink "ToffeeTownLaw" 77 yX12_down) ∈ gtbl := gm_t (gi_7 (List.mem_of_getElem? (i := 139) (by decide +kernel))) rfl
theorem tw_1695 : (Cond.instanceMethod yX12_down) ∈ gtbl := gm_t (gi_7 (List.mem_of_getElem? (i := 140) (by decide +kernel))) rfl
theorem tw_1696 : (Cond.selects "ToffeeTownModel" yX12_down yX12_down) ∈ gtbl := gm_t (gi_7 (List.mem_of_getElem? (i := 141) (by decide +kernel))) rfl
theorem tw_1697 : (Cond.code yX12_down prog_14_method_85_code 2 (some FieldType.int)) ∈ gtbl := gm_t (gi_7 (List.mem_of_getElem? (i := 142) (by decide +kernel))) rfl
theorem tw_1698 : (Cond.methodLink "ToffeeTownModel" 462 yX12_laysDown) ∈ gtbl := gm_t (gi_7 (List.mem_of_getElem? (i := 143) (by decide +kernel))) rfl
theorem tw_1700 : (Cond.instanceMethod yX12_laysDown) ∈ gtbl := gm_t (gi_7 (List.mem_of_getElem? (i := 145) (by decide +kernel))) rfl
theorem tw_1701 : (Cond.code yX12_laysDown prog_14_method_84_code 3 none) ∈ gtbl := gm_t (gi_7 (List.mem_of_getElem? (i := 146) (by decide +kernel))) rfl
theorem tw_1702 : (Cond.methodLink "ToffeeTownLaw" 81 yX12_part) ∈ gtbl := gm_t (gi_7 (List.mem_of_getElem? (i := 147) (by decide +kernel))) rfl
theorem tw_1703 : (Cond.instanceMethod yX12_part) ∈ gtbl := gm_t (gi_7 (List.mem_of_getElem? (i := 148) (by decide +kernel))) rfl
theorem tw_1704 : (Cond.selects "ToffeeTownModel" yX12_part yX12_part) ∈ gtbl := gm_t (gi_7 (List.mem_of_getElem? (i := 149) (by decide +kernel))) rfl
theorem tw_1705 : (Cond.code yX12_part prog_14_method_87_code 7 (some FieldType.int)) ∈ gtbl := gm_t (gi_7 (List.mem_of_getElem? (i := 150) (by decide +kernel))) rfl
theorem tw_1706 : (Cond.constant "ToffeeTownModel" 465 (100000 : Int32)) ∈ gtbl := gm_t (gi_7 (List.mem_of_getElem? (i := 151) (by decide +kernel))) rfl
theorem tw_1707 : (Cond.methodLink "ToffeeTownModel" 466 yX12_leadsOut) ∈ gtbl := gm_t (gi_7 (List.mem_of_getElem? (i := 152) (by decide +kernel))) rfl
theorem tw_1709 : (Cond.instanceMethod yX12_leadsOut) ∈ gtbl := gm_t (gi_7 (List.mem_of_getElem? (i := 154) (by decide +kernel))) rfl
theorem tw_1710 : (Cond.code yX12_leadsOut prog_14_method_86_code 5 (some FieldType.int)) ∈ gtbl := gm_t (gi_7 (List.mem_of_getElem? (i := 155) (by decide +kernel))) rfl
theorem tw_1711 : (Cond.methodLink "ToffeeTownLaw" 85 yX12_blocks) ∈ gtbl := gm_t (gi_7 (List.mem_of_getElem? (i := 156) (by decide +kernel))) rfl
theorem tw_1712 : (Cond.instanceMethod yX12_blocks) ∈ gtbl := gm_t (gi_7 (List.mem_of_getElem? (i := 157) (by decide +kernel))) rfl
theorem tw_1713 : (Cond.selects "ToffeeTownModel" yX12_blocks yX12_blocks) ∈ gtbl := gm_t (gi_7 (List.mem_of_getElem? (i := 158) (by decide +kernel))) rfl
theorem tw_1714 : (Cond.code yX12_blocks prog_14_method_88_code 7 (some FieldType.int)) ∈ gtbl := gm_t (gi_7 (List.mem_of_getElem? (i := 159) (by decide +kernel))) rfl
theorem tw_1715 : (Cond.methodLink "ToffeeTownLaw" 89 yX12_stay) ∈ gtbl := gm_t (gi_7 (List.mem_of_getElem? (i := 160) (by decide +kernel))) rfl
theorem tw_1716 : (Cond.instanceMethod yX12_stay) ∈ gtbl := gm_t (gi_7 (List.mem_of_getElem? (i := 161) (by decide +kernel))) rfl
theorem tw_1717 : (Cond.selects "ToffeeTownModel" yX12_stay yX12_stay) ∈ gtbl := gm_t (gi_7 (List.mem_of_getElem? (i := 162) (by decide +kernel))) rfl
theorem tw_1718 : (Cond.code yX12_stay prog_14_method_89_code 6 (some FieldType.int)) ∈ gtbl := gm_t (gi_7 (List.mem_of_getElem? (i := 163) (by decide +kernel))) rfl
theorem tw_1719 : (Cond.constantLong "ToffeeTownModel" 469 (60 : Int64)) ∈ gtbl := gm_t (gi_7 (List.mem_of_getElem? (i := 164) (by decide +kernel))) rfl
theorem tw_1720 : (Cond.methodLink "ToffeeTownModel" 471 yX12_placeIn) ∈ gtbl := gm_t (gi_7 (List.mem_of_getElem? (i := 165) (by decide +kernel))) rfl
theorem tw_1722 : (Cond.instanceMethod yX12_placeIn) ∈ gtbl := gm_t (gi_7 (List.mem_of_getElem? (i := 167) (by decide +kernel))) rfl
theorem tw_1723 : (Cond.code yX12_placeIn prog_14_method_82_code 4 (some FieldType.int)) ∈ gtbl := gm_t (gi_7 (List.mem_of_getElem? (i := 168) (by decide +kernel))) rfl
theorem tw_1724 : (Cond.methodLink "ToffeeTownLaw" 93 yX12_iced) ∈ gtbl := gm_t (gi_7 (List.mem_of_getElem? (i := 169) (by decide +kernel))) rfl
theorem tw_1725 : (Cond.instanceMethod yX12_iced) ∈ gtbl := gm_t (gi_7 (List.mem_of_getElem? (i := 170) (by decide +kernel))) rfl
theorem tw_1726 : (Cond.selects "ToffeeTownModel" yX12_iced yX12_iced) ∈ gtbl := gm_t (gi_7 (List.mem_of_getElem? (i := 171) (by decide +kernel))) rfl
theorem tw_1727 : (Cond.code yX12_iced prog_14_method_90_code 5 (some FieldType.int)) ∈ gtbl := gm_t (gi_7 (List.mem_of_getElem? (i := 172) (by decide +kernel))) rfl
theorem tw_1728 : (Cond.methodLink "ToffeeTownLaw" 98 yX12_stood) ∈ gtbl := gm_t (gi_7 (List.mem_of_getElem? (i := 173) (by decide +kernel))) rfl
theorem tw_1729 : (Cond.instanceMethod yX12_stood) ∈ gtbl := gm_t (gi_7 (List.mem_of_getElem? (i := 174) (by decide +kernel))) rfl
theorem tw_1730 : (Cond.selects "ToffeeTownModel" yX12_stood yX12_stood) ∈ gtbl := gm_t (gi_7 (List.mem_of_getElem? (i := 175) (by decide +kernel))) rfl
theorem tw_1731 : (Cond.code yX12_stood prog_14_method_91_code 8 (some FieldType.int)) ∈ gtbl := gm_t (gi_7 (List.mem_of_getElem? (i := 176) (by decide +kernel))) rfl
theorem tw_1732 : (Cond.constantLong "ToffeeTownModel" 474 (30 : Int64)) ∈ gtbl := gm_t (gi_7 (List.mem_of_getElem? (i := 177) (by decide +kernel))) rfl
theorem tw_1733 : (Cond.methodLink "ToffeeTownLaw" 102 yX12_row) ∈ gtbl := gm_t (gi_7 (List.mem_of_getElem? (i := 178) (by decide +kernel))) rfl
theorem tw_1734 : (Cond.instanceMethod yX12_row) ∈ gtbl := gm_t (gi_7 (List.mem_of_getElem? (i := 179) (by decide +kernel))) rfl
theorem tw_1735 : (Cond.selects "ToffeeTownModel" yX12_row yX12_row) ∈ gtbl := gm_t (gi_7 (List.mem_of_getElem? (i := 180) (by decide +kernel))) rfl
theorem tw_1736 : (Cond.code yX12_row prog_14_method_94_code 8 (some FieldType.int)) ∈ gtbl := gm_t (gi_7 (List.mem_of_getElem? (i := 181) (by decide +kernel))) rfl
theorem tw_1737 : (Cond.constantLong "ToffeeTownModel" 479 (3 : Int64)) ∈ gtbl := gm_t (gi_7 (List.mem_of_getElem? (i := 182) (by decide +kernel))) rfl
theorem tw_1738 : (Cond.methodLink "ToffeeTownModel" 481 yX12_laysTwos) ∈ gtbl := gm_t (gi_7 (List.mem_of_getElem? (i := 183) (by decide +kernel))) rfl
theorem tw_1740 : (Cond.instanceMethod yX12_laysTwos) ∈ gtbl := gm_t (gi_7 (List.mem_of_getElem? (i := 185) (by decide +kernel))) rfl
theorem tw_1741 : (Cond.code yX12_laysTwos prog_14_method_92_code 4 (some FieldType.int)) ∈ gtbl := gm_t (gi_7 (List.mem_of_getElem? (i := 186) (by decide +kernel))) rfl
theorem tw_1742 : (Cond.methodLink "ToffeeTownModel" 484 yX12_placesByRow) ∈ gtbl := gm_t (gi_7 (List.mem_of_getElem? (i := 187) (by decide +kernel))) rfl
theorem tw_1744 : (Cond.instanceMethod yX12_placesByRow) ∈ gtbl := gm_t (gi_7 (List.mem_of_getElem? (i := 189) (by decide +kernel))) rfl
theorem tw_1745 : (Cond.code yX12_placesByRow prog_14_method_93_code 8 (some FieldType.int)) ∈ gtbl := gm_t (gi_7 (List.mem_of_getElem? (i := 190) (by decide +kernel))) rfl
theorem tw_1746 : (Cond.methodLink "ToffeeTownModel" 476 yX12_allPlaces) ∈ gtbl := gm_t (gi_7 (List.mem_of_getElem? (i := 191) (by decide +kernel))) rfl
theorem tw_1748 : (Cond.instanceMethod yX12_allPlaces) ∈ gtbl := gm_t (gi_7 (List.mem_of_getElem? (i := 193) (by decide +kernel))) rfl
theorem tw_1749 : (Cond.code yX12_allPlaces prog_14_method_81_code 3 (some FieldType.int)) ∈ gtbl := gm_t (gi_7 (List.mem_of_getElem? (i := 194) (by decide +kernel))) rfl
theorem tw_1750 : (Cond.methodLink "ToffeeTownLaw" 106 yX12_order) ∈ gtbl := gm_t (gi_7 (List.mem_of_getElem? (i := 195) (by decide +kernel))) rfl
theorem tw_1751 : (Cond.instanceMethod yX12_order) ∈ gtbl := gm_t (gi_7 (List.mem_of_getElem? (i := 196) (by decide +kernel))) rfl
theorem tw_1752 : (Cond.selects "ToffeeTownModel" yX12_order yX12_order) ∈ gtbl := gm_t (gi_7 (List.mem_of_getElem? (i := 197) (by decide +kernel))) rfl
theorem tw_1753 : (Cond.code yX12_order prog_14_method_95_code 6 (some FieldType.int)) ∈ gtbl := gm_t (gi_7 (List.mem_of_getElem? (i := 198) (by decide +kernel))) rfl
theorem tw_1754 : (Cond.methodLink "ToffeeTownLaw" 110 yX12_rests) ∈ gtbl := gm_t (gi_7 (List.mem_of_getElem? (i := 199) (by decide +kernel))) rfl
theorem tw_1755 : (Cond.instanceMethod yX12_rests) ∈ gtbl := gm_t (gi_7 (List.mem_of_getElem? (i := 200) (by decide +kernel))) rfl
theorem tw_1756 : (Cond.selects "ToffeeTownModel" yX12_rests yX12_rests) ∈ gtbl := gm_t (gi_7 (List.mem_of_getElem? (i := 201) (by decide +kernel))) rfl
theorem tw_1757 : (Cond.code yX12_rests prog_14_method_98_code 8 (some FieldType.int)) ∈ gtbl := gm_t (gi_7 (List.mem_of_getElem? (i := 202) (by decide +kernel))) rfl
theorem tw_1758 : (Cond.constantLong "ToffeeTownModel" 488 (20 : Int64)) ∈ gtbl := gm_t (gi_7 (List.mem_of_getElem? (i := 203) (by decide +kernel))) rfl
theorem tw_1759 : (Cond.methodLink "ToffeeTownModel" 490 yX12_laysRocks) ∈ gtbl := gm_t (gi_7 (List.mem_of_getElem? (i := 204) (by decide +kernel))) rfl
theorem tw_1761 : (Cond.instanceMethod yX12_laysRocks) ∈ gtbl := gm_t (gi_7 (List.mem_of_getElem? (i := 206) (by decide +kernel))) rfl
theorem tw_1762 : (Cond.code yX12_laysRocks prog_14_method_96_code 5 none) ∈ gtbl := gm_t (gi_7 (List.mem_of_getElem? (i := 207) (by decide +kernel))) rfl
theorem tw_1763 : (Cond.methodLink "ToffeeTownModel" 493 yX12_isRest) ∈ gtbl := gm_t (gi_7 (List.mem_of_getElem? (i := 208) (by decide +kernel))) rfl
theorem tw_1765 : (Cond.instanceMethod yX12_isRest) ∈ gtbl := gm_t (gi_7 (List.mem_of_getElem? (i := 210) (by decide +kernel))) rfl
theorem tw_1766 : (Cond.code yX12_isRest prog_14_method_97_code 3 (some FieldType.boolean)) ∈ gtbl := gm_t (gi_7 (List.mem_of_getElem? (i := 211) (by decide +kernel))) rfl
theorem tw_1767 : (Cond.methodLink "ToffeeTownLaw" 114 yX12_parts) ∈ gtbl := gm_t (gi_7 (List.mem_of_getElem? (i := 212) (by decide +kernel))) rfl
theorem tw_1768 : (Cond.instanceMethod yX12_parts) ∈ gtbl := gm_t (gi_7 (List.mem_of_getElem? (i := 213) (by decide +kernel))) rfl
theorem tw_1769 : (Cond.selects "ToffeeTownModel" yX12_parts yX12_parts) ∈ gtbl := gm_t (gi_7 (List.mem_of_getElem? (i := 214) (by decide +kernel))) rfl
theorem tw_1770 : (Cond.code yX12_parts prog_14_method_100_code 8 (some FieldType.int)) ∈ gtbl := gm_t (gi_7 (List.mem_of_getElem? (i := 215) (by decide +kernel))) rfl
theorem tw_1771 : (Cond.constantLong "ToffeeTownModel" 496 (9999 : Int64)) ∈ gtbl := gm_t (gi_7 (List.mem_of_getElem? (i := 216) (by decide +kernel))) rfl
theorem tw_1772 : (Cond.methodLink "ToffeeTownModel" 498 yX12_allHard) ∈ gtbl := gm_t (gi_7 (List.mem_of_getElem? (i := 217) (by decide +kernel))) rfl
theorem tw_1774 : (Cond.instanceMethod yX12_allHard) ∈ gtbl := gm_t (gi_7 (List.mem_of_getElem? (i := 219) (by decide +kernel))) rfl
theorem tw_1775 : (Cond.code yX12_allHard prog_14_method_99_code 4 (some FieldType.int)) ∈ gtbl := gm_t (gi_7 (List.mem_of_getElem? (i := 220) (by decide +kernel))) rfl
theorem tw_1776 : (Cond.methodLink "ToffeeTownLaw" 118 yX12_note) ∈ gtbl := gm_t (gi_7 (List.mem_of_getElem? (i := 221) (by decide +kernel))) rfl
theorem tw_1777 : (Cond.instanceMethod yX12_note) ∈ gtbl := gm_t (gi_7 (List.mem_of_getElem? (i := 222) (by decide +kernel))) rfl
theorem tw_1778 : (Cond.selects "ToffeeTownModel" yX12_note yX12_note) ∈ gtbl := gm_t (gi_7 (List.mem_of_getElem? (i := 223) (by decide +kernel))) rfl
theorem tw_1779 : (Cond.code yX12_note prog_14_method_101_code 5 (some FieldType.int)) ∈ gtbl := gm_t (gi_7 (List.mem_of_getElem? (i := 224) (by decide +kernel))) rfl
theorem tw_1780 : (Cond.methodLink "ToffeeTownLaw" 122 yX12_ruled) ∈ gtbl := gm_t (gi_7 (List.mem_of_getElem? (i := 225) (by decide +kernel))) rfl
theorem tw_1781 : (Cond.instanceMethod yX12_ruled) ∈ gtbl := gm_t (gi_7 (List.mem_of_getElem? (i := 226) (by decide +kernel))) rfl
theorem tw_1782 : (Cond.selects "ToffeeTownModel" yX12_ruled yX12_ruled) ∈ gtbl := gm_t (gi_7 (List.mem_of_getElem? (i := 227) (by decide +kernel))) rfl
theorem tw_1783 : (Cond.code yX12_ruled prog_14_method_103_code 5 (some FieldType.int)) ∈ gtbl := gm_t (gi_7 (List.mem_of_getElem? (i := 228) (by decide +kernel))) rfl
theorem tw_1784 : (Cond.methodLink "ToffeeTownModel" 501 yX12_couldRule) ∈ gtbl := gm_t (gi_7 (List.mem_of_getElem? (i := 229) (by decide +kernel))) rfl
theorem tw_1786 : (Cond.instanceMethod yX12_couldRule) ∈ gtbl := gm_t (gi_7 (List.mem_of_getElem? (i := 231) (by decide +kernel))) rfl
theorem tw_1787 : (Cond.code yX12_couldRule prog_14_method_102_code 4 (some FieldType.boolean)) ∈ gtbl := gm_t (gi_7 (List.mem_of_getElem? (i := 232) (by decide +kernel))) rfl
theorem tw_1788 : (Cond.methodLink "ToffeeTownLaw" 126 yX12_look) ∈ gtbl := gm_t (gi_7 (List.mem_of_getElem? (i := 233) (by decide +kernel))) rfl
theorem tw_1789 : (Cond.instanceMethod yX12_look) ∈ gtbl := gm_t (gi_7 (List.mem_of_getElem? (i := 234) (by decide +kernel))) rfl
theorem tw_1790 : (Cond.selects "ToffeeTownModel" yX12_look yX12_look) ∈ gtbl := gm_t (gi_7 (List.mem_of_getElem? (i := 235) (by decide +kernel))) rfl
theorem tw_1791 : (Cond.code yX12_look prog_14_method_105_code 6 (some FieldType.int)) ∈ gtbl := gm_t (gi_7 (List.mem_of_getElem? (i := 236) (by decide +kernel))) rfl
theorem tw_1792 : (Cond.methodLink "ToffeeTownModel" 504 yX12_mostAlike) ∈ gtbl := gm_t (gi_7 (List.mem_of_getElem? (i := 237) (by decide +kernel))) rfl
theorem tw_1794 : (Cond.instanceMethod yX12_mostAlike) ∈ gtbl := gm_t (gi_7 (List.mem_of_getElem? (i := 239) (by decide +kernel))) rfl
theorem tw_1795 : (Cond.code yX12_mostAlike prog_14_method_104_code 7 (some FieldType.int)) ∈ gtbl := gm_t (gi_8 (List.mem_of_getElem? (i := 0) (by decide +kernel))) rfl
theorem tw_1796 : (Cond.methodLink "ToffeeTownLaw" 130 yX12_seed) ∈ gtbl := gm_t (gi_8 (List.mem_of_getElem? (i := 1) (by decide +kernel))) rfl
theorem tw_1797 : (Cond.instanceMethod yX12_seed) ∈ gtbl := gm_t (gi_8 (List.mem_of_getElem? (i := 2) (by decide +kernel))) rfl
theorem tw_1798 : (Cond.selects "ToffeeTownModel" yX12_seed yX12_seed) ∈ gtbl := gm_t (gi_8 (List.mem_of_getElem? (i := 3) (by decide +kernel))) rfl
theorem tw_1799 : (Cond.code yX12_seed prog_14_method_106_code 3 (some FieldType.int)) ∈ gtbl := gm_t (gi_8 (List.mem_of_getElem? (i := 4) (by decide +kernel))) rfl
theorem tw_1800 : (Cond.methodLink "ToffeeTownLaw" 134 yX12_summers) ∈ gtbl := gm_t (gi_8 (List.mem_of_getElem? (i := 5) (by decide +kernel))) rfl
theorem tw_1801 : (Cond.instanceMethod yX12_summers) ∈ gtbl := gm_t (gi_8 (List.mem_of_getElem? (i := 6) (by decide +kernel))) rfl
theorem tw_1802 : (Cond.selects "ToffeeTownModel" yX12_summers yX12_summers) ∈ gtbl := gm_t (gi_8 (List.mem_of_getElem? (i := 7) (by decide +kernel))) rfl
theorem tw_1803 : (Cond.code yX12_summers prog_14_method_108_code 11 (some FieldType.int)) ∈ gtbl := gm_t (gi_8 (List.mem_of_getElem? (i := 8) (by decide +kernel))) rfl
theorem tw_1804 : (Cond.constantLong "ToffeeTownModel" 514 (10 : Int64)) ∈ gtbl := gm_t (gi_8 (List.mem_of_getElem? (i := 9) (by decide +kernel))) rfl
theorem tw_1805 : (Cond.methodLink "ToffeeTownModel" 516 yX12_draws) ∈ gtbl := gm_t (gi_8 (List.mem_of_getElem? (i := 10) (by decide +kernel))) rfl
theorem tw_1807 : (Cond.instanceMethod yX12_draws) ∈ gtbl := gm_t (gi_8 (List.mem_of_getElem? (i := 12) (by decide +kernel))) rfl
theorem tw_1808 : (Cond.code yX12_draws prog_14_method_107_code 2 (some FieldType.int)) ∈ gtbl := gm_t (gi_8 (List.mem_of_getElem? (i := 13) (by decide +kernel))) rfl
theorem tw_1809 : (Cond.constantLong "ToffeeTownModel" 507 (1103515245 : Int64)) ∈ gtbl := gm_t (gi_8 (List.mem_of_getElem? (i := 14) (by decide +kernel))) rfl
theorem tw_1810 : (Cond.constantLong "ToffeeTownModel" 509 (12345 : Int64)) ∈ gtbl := gm_t (gi_8 (List.mem_of_getElem? (i := 15) (by decide +kernel))) rfl
theorem tw_1811 : (Cond.constantLong "ToffeeTownModel" 511 (2147483648 : Int64)) ∈ gtbl := gm_t (gi_8 (List.mem_of_getElem? (i := 16) (by decide +kernel))) rfl
theorem tw_1812 : (Cond.constant "ToffeeTownModel" 513 (65536 : Int32)) ∈ gtbl := gm_t (gi_8 (List.mem_of_getElem? (i := 17) (by decide +kernel))) rfl
theorem tw_1813 : (Cond.methodLink "ToffeeTownLaw" 138 yX12_count) ∈ gtbl := gm_t (gi_8 (List.mem_of_getElem? (i := 18) (by decide +kernel))) rfl
theorem tw_1814 : (Cond.instanceMethod yX12_count) ∈ gtbl := gm_t (gi_8 (List.mem_of_getElem? (i := 19) (by decide +kernel))) rfl
theorem tw_1815 : (Cond.selects "ToffeeTownModel" yX12_count yX12_count) ∈ gtbl := gm_t (gi_8 (List.mem_of_getElem? (i := 20) (by decide +kernel))) rfl
theorem tw_1816 : (Cond.code yX12_count prog_14_method_109_code 2 (some FieldType.int)) ∈ gtbl := gm_t (gi_8 (List.mem_of_getElem? (i := 21) (by decide +kernel))) rfl
theorem tw_1817 : (Cond.methodLink "ToffeeTownLaw" 142 yX12_image) ∈ gtbl := gm_t (gi_8 (List.mem_of_getElem? (i := 22) (by decide +kernel))) rfl
theorem tw_1818 : (Cond.instanceMethod yX12_image) ∈ gtbl := gm_t (gi_8 (List.mem_of_getElem? (i := 23) (by decide +kernel))) rfl
theorem tw_1819 : (Cond.selects "ToffeeTownModel" yX12_image yX12_image) ∈ gtbl := gm_t (gi_8 (List.mem_of_getElem? (i := 24) (by decide +kernel))) rfl
theorem tw_1820 : (Cond.code yX12_image prog_14_method_112_code 2 (some FieldType.int)) ∈ gtbl := gm_t (gi_8 (List.mem_of_getElem? (i := 25) (by decide +kernel))) rfl
theorem tw_1821 : (Cond.methodLink "ToffeeTownLaw" 146 yX12_back) ∈ gtbl := gm_t (gi_8 (List.mem_of_getElem? (i := 26) (by decide +kernel))) rfl
theorem tw_1822 : (Cond.instanceMethod yX12_back) ∈ gtbl := gm_t (gi_8 (List.mem_of_getElem? (i := 27) (by decide +kernel))) rfl
theorem tw_1823 : (Cond.selects "ToffeeTownModel" yX12_back yX12_back) ∈ gtbl := gm_t (gi_8 (List.mem_of_getElem? (i := 28) (by decide +kernel))) rfl
theorem tw_1824 : (Cond.code yX12_back prog_14_method_113_code 2 (some FieldType.int)) ∈ gtbl := gm_t (gi_8 (List.mem_of_getElem? (i := 29) (by decide +kernel))) rfl
theorem tw_1825 : (Cond.fieldLink "java/lang/String" 9 "java/lang/String" "value" "[B") ∈ gtbl := gm_t (gi_8 (List.mem_of_getElem? (i := 30) (by decide +kernel))) rfl
theorem tw_1826 : (Cond.fieldLink "java/lang/String" 15 "java/lang/String" "coder" "B") ∈ gtbl := gm_t (gi_8 (List.mem_of_getElem? (i := 31) (by decide +kernel))) rfl
def gN : List Cond := [Cond.methodLinkNest "ToffeeTown" 11 yX8_init "ToffeeTown", Cond.methodLinkNest "ToffeeTown$TownReader" 11 yX9_init "ToffeeTown", Cond.methodLinkNest "ToffeeTown$Town" 17 yX7_init "ToffeeTown", Cond.methodLinkNest "ToffeeTown" 40 yX6_init "ToffeeTown", Cond.methodLinkNest "ToffeeTown$Scene" 11 yX9_init "ToffeeTown", Cond.methodLinkNest "ToffeeTown$Scene" 20 yX7_init "ToffeeTown", Cond.methodLinkNest "ToffeeTown" 64 yX7_init "ToffeeTown", Cond.methodLinkNest "ToffeeTown$Rows" 11 yX7_init "ToffeeTown", Cond.methodLinkNest "ToffeeTown$Rests" 9 yX7_init "ToffeeTown", Cond.methodLinkNest "ToffeeTown$Candidates" 11 yX7_init "ToffeeTown", Cond.methodLinkNest "ToffeeTown$TownReader" 109 yX11_isWithin "ToffeeTown", Cond.methodLinkNest "ToffeeTown$RuleReader" 68 yX11_isWithin "ToffeeTown", Cond.methodLinkNest "ToffeeTown$Days" 121 yX11_hasBit "ToffeeTown", Cond.methodLinkNest "ToffeeTown$Rule" 19 yX11_isWithin "ToffeeTown"]

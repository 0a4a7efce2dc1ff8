theorem m_s_Phrase_take : Cond.selects R_Phrase y_Phrase_take y_Phrase_take ∈ lw_G := List.mem_filter.mpr ⟨List.mem_of_getElem? (i := 0) (by decide +kernel), rfl⟩
theorem m_s_Phrase_mayEnd : Cond.selects R_Phrase y_Phrase_mayEnd y_Phrase_mayEnd ∈ lw_G := List.mem_filter.mpr ⟨List.mem_of_getElem? (i := 1) (by decide +kernel), rfl⟩
theorem m_s_Phrase_closePart : Cond.selects R_Phrase y_Phrase_closePart y_Phrase_closePart ∈ lw_G := List.mem_filter.mpr ⟨List.mem_of_getElem? (i := 2) (by decide +kernel), rfl⟩
theorem m_s_Phrase_isPart : Cond.selects R_Phrase y_Phrase_isPart y_Phrase_isPart ∈ lw_G := List.mem_filter.mpr ⟨List.mem_of_getElem? (i := 3) (by decide +kernel), rfl⟩
theorem m_s_Phrase_openDescription : Cond.selects R_Phrase y_Phrase_openDescription y_Phrase_openDescription ∈ lw_G := List.mem_filter.mpr ⟨List.mem_of_getElem? (i := 4) (by decide +kernel), rfl⟩
theorem m_s_Phrase_takeAtPart : Cond.selects R_Phrase y_Phrase_takeAtPart y_Phrase_takeAtPart ∈ lw_G := List.mem_filter.mpr ⟨List.mem_of_getElem? (i := 5) (by decide +kernel), rfl⟩
theorem m_s_Phrase_openPart : Cond.selects R_Phrase y_Phrase_openPart y_Phrase_openPart ∈ lw_G := List.mem_filter.mpr ⟨List.mem_of_getElem? (i := 6) (by decide +kernel), rfl⟩
theorem m_s_Phrase_setAmount : Cond.selects R_Phrase y_Phrase_setAmount y_Phrase_setAmount ∈ lw_G := List.mem_filter.mpr ⟨List.mem_of_getElem? (i := 7) (by decide +kernel), rfl⟩
theorem m_s_Phrase_openMain : Cond.selects R_Phrase y_Phrase_openMain y_Phrase_openMain ∈ lw_G := List.mem_filter.mpr ⟨List.mem_of_getElem? (i := 8) (by decide +kernel), rfl⟩
theorem m_s_Phrase_takeInDescription : Cond.selects R_Phrase y_Phrase_takeInDescription y_Phrase_takeInDescription ∈ lw_G := List.mem_filter.mpr ⟨List.mem_of_getElem? (i := 9) (by decide +kernel), rfl⟩
theorem m_s_Phrase_addWord : Cond.selects R_Phrase y_Phrase_addWord y_Phrase_addWord ∈ lw_G := List.mem_filter.mpr ⟨List.mem_of_getElem? (i := 10) (by decide +kernel), rfl⟩
theorem m_s_Phrase_isOwn : Cond.selects R_Phrase y_Phrase_isOwn y_Phrase_isOwn ∈ lw_G := List.mem_filter.mpr ⟨List.mem_of_getElem? (i := 11) (by decide +kernel), rfl⟩
theorem m_s_NC_fittingSet : Cond.selects R_NC y_NC_fittingSet y_NC_fittingSet ∈ lw_G := List.mem_filter.mpr ⟨List.mem_of_getElem? (i := 12) (by decide +kernel), rfl⟩
theorem m_s_NC_refuseRow : Cond.selects R_NC y_NC_refuseRow y_NC_refuseRow ∈ lw_G := List.mem_filter.mpr ⟨List.mem_of_getElem? (i := 13) (by decide +kernel), rfl⟩
theorem m_s_NC_tell : Cond.selects R_NC y_NC_tell y_NC_tell ∈ lw_G := List.mem_filter.mpr ⟨List.mem_of_getElem? (i := 14) (by decide +kernel), rfl⟩
theorem m_s_NC_goThrough : Cond.selects R_NC y_NC_goThrough y_NC_goThrough ∈ lw_G := List.mem_filter.mpr ⟨List.mem_of_getElem? (i := 15) (by decide +kernel), rfl⟩
theorem m_s_NC_goThroughPart : Cond.selects R_NC y_NC_goThroughPart y_NC_goThroughPart ∈ lw_G := List.mem_filter.mpr ⟨List.mem_of_getElem? (i := 16) (by decide +kernel), rfl⟩
theorem m_s_NC_takeExceptsAway : Cond.selects R_NC y_NC_takeExceptsAway y_NC_takeExceptsAway ∈ lw_G := List.mem_filter.mpr ⟨List.mem_of_getElem? (i := 17) (by decide +kernel), rfl⟩
theorem m_s_NC_giveNumber : Cond.selects R_NC y_NC_giveNumber y_NC_giveNumber ∈ lw_G := List.mem_filter.mpr ⟨List.mem_of_getElem? (i := 18) (by decide +kernel), rfl⟩
theorem m_s_NC_bestOf : Cond.selects R_NC y_NC_bestOf y_NC_bestOf ∈ lw_G := List.mem_filter.mpr ⟨List.mem_of_getElem? (i := 19) (by decide +kernel), rfl⟩
theorem m_s_NC_giveMeant : Cond.selects R_NC y_NC_giveMeant y_NC_giveMeant ∈ lw_G := List.mem_filter.mpr ⟨List.mem_of_getElem? (i := 20) (by decide +kernel), rfl⟩
theorem m_s_NC_leadersOf : Cond.selects R_NC y_NC_leadersOf y_NC_leadersOf ∈ lw_G := List.mem_filter.mpr ⟨List.mem_of_getElem? (i := 21) (by decide +kernel), rfl⟩
theorem m_s_NC_endAt : Cond.selects R_NC y_NC_endAt y_NC_endAt ∈ lw_G := List.mem_filter.mpr ⟨List.mem_of_getElem? (i := 22) (by decide +kernel), rfl⟩
theorem m_s_NC_replyFault : Cond.selects R_NC y_NC_replyFault y_NC_replyFault ∈ lw_G := List.mem_filter.mpr ⟨List.mem_of_getElem? (i := 23) (by decide +kernel), rfl⟩
theorem m_s_NC_leftByRow : Cond.selects R_NC y_NC_leftByRow y_NC_leftByRow ∈ lw_G := List.mem_filter.mpr ⟨List.mem_of_getElem? (i := 24) (by decide +kernel), rfl⟩
theorem m_s_NC_groupAt : Cond.selects R_NC y_NC_groupAt y_NC_groupAt ∈ lw_G := List.mem_filter.mpr ⟨List.mem_of_getElem? (i := 25) (by decide +kernel), rfl⟩
theorem m_ini_NC : Cond.initialized R_NC ∈ lw_G := List.mem_filter.mpr ⟨List.mem_of_getElem? (i := 46) (by decide +kernel), rfl⟩
theorem m_ini_Things : Cond.initialized R_Things ∈ lw_G := List.mem_filter.mpr ⟨List.mem_of_getElem? (i := 47) (by decide +kernel), rfl⟩
theorem m_ini_Arrays : Cond.initialized R_Arrays ∈ lw_G := List.mem_filter.mpr ⟨List.mem_of_getElem? (i := 48) (by decide +kernel), rfl⟩
theorem m_ini_Phrase : Cond.initialized R_Phrase ∈ lw_G := List.mem_filter.mpr ⟨List.mem_of_getElem? (i := 49) (by decide +kernel), rfl⟩
theorem m_ini_Picks : Cond.initialized R_Picks ∈ lw_G := List.mem_filter.mpr ⟨List.mem_of_getElem? (i := 50) (by decide +kernel), rfl⟩
theorem m_ini_Integer : Cond.initialized R_Integer ∈ lw_G := List.mem_filter.mpr ⟨List.mem_of_getElem? (i := 52) (by decide +kernel), rfl⟩
theorem m_o_NC_1 : Cond.methodLink R_NC 1 objectInit ∈ lw_G := List.mem_filter.mpr ⟨List.mem_of_getElem? (i := 58) (by decide +kernel), rfl⟩
theorem m_oi : Cond.instanceMethod objectInit ∈ lw_G := List.mem_filter.mpr ⟨List.mem_of_getElem? (i := 59) (by decide +kernel), rfl⟩
theorem m_oc : Cond.code objectInit ⟨#[0xb1]⟩ 1 none ∈ lw_G := List.mem_filter.mpr ⟨List.mem_of_getElem? (i := 60) (by decide +kernel), rfl⟩
theorem m_l_NC_7 : Cond.classLink R_NC 7 R_Things ∈ lw_G := List.mem_filter.mpr ⟨List.mem_of_getElem? (i := 61) (by decide +kernel), rfl⟩
theorem m_inst_Things : Cond.instantiable R_Things 8 ∈ lw_G := List.mem_filter.mpr ⟨List.mem_of_getElem? (i := 62) (by decide +kernel), rfl⟩
theorem m_m_NC_9 : Cond.methodLink R_NC 9 y_Things_init ∈ lw_G := List.mem_filter.mpr ⟨List.mem_of_getElem? (i := 63) (by decide +kernel), rfl⟩
theorem m_i_Things_init : Cond.instanceMethod y_Things_init ∈ lw_G := List.mem_filter.mpr ⟨List.mem_of_getElem? (i := 64) (by decide +kernel), rfl⟩
theorem m_code_Things_init : Cond.code y_Things_init b_Things_init 1 none ∈ lw_G := List.mem_filter.mpr ⟨List.mem_of_getElem? (i := 65) (by decide +kernel), rfl⟩
theorem m_o_Things_3 : Cond.methodLink R_Things 3 objectInit ∈ lw_G := List.mem_filter.mpr ⟨List.mem_of_getElem? (i := 66) (by decide +kernel), rfl⟩
theorem m_m_Things_37 : Cond.methodLink R_Things 37 y_Arrays_fill ∈ lw_G := List.mem_filter.mpr ⟨List.mem_of_getElem? (i := 67) (by decide +kernel), rfl⟩
theorem m_t_Arrays_fill : Cond.static y_Arrays_fill ∈ lw_G := List.mem_filter.mpr ⟨List.mem_of_getElem? (i := 68) (by decide +kernel), rfl⟩
theorem m_code_Arrays_fill : Cond.code y_Arrays_fill b_Arrays_fill 4 none ∈ lw_G := List.mem_filter.mpr ⟨List.mem_of_getElem? (i := 69) (by decide +kernel), rfl⟩
theorem m_f_Things_9 : Cond.fieldLink R_Things 9 "NounChoice$Things" "nouns" "[I" ∈ lw_G := List.mem_filter.mpr ⟨List.mem_of_getElem? (i := 70) (by decide +kernel), rfl⟩
theorem m_f_Things_15 : Cond.fieldLink R_Things 15 "NounChoice$Things" "adjectives" "[I" ∈ lw_G := List.mem_filter.mpr ⟨List.mem_of_getElem? (i := 71) (by decide +kernel), rfl⟩
theorem m_f_Things_18 : Cond.fieldLink R_Things 18 "NounChoice$Things" "kinds" "[I" ∈ lw_G := List.mem_filter.mpr ⟨List.mem_of_getElem? (i := 72) (by decide +kernel), rfl⟩
theorem m_f_Things_21 : Cond.fieldLink R_Things 21 "NounChoice$Things" "places" "[I" ∈ lw_G := List.mem_filter.mpr ⟨List.mem_of_getElem? (i := 73) (by decide +kernel), rfl⟩
theorem m_f_Things_24 : Cond.fieldLink R_Things 24 "NounChoice$Things" "marks" "[I" ∈ lw_G := List.mem_filter.mpr ⟨List.mem_of_getElem? (i := 74) (by decide +kernel), rfl⟩
theorem m_f_Things_27 : Cond.fieldLink R_Things 27 "NounChoice$Things" "plurals" "[I" ∈ lw_G := List.mem_filter.mpr ⟨List.mem_of_getElem? (i := 75) (by decide +kernel), rfl⟩
theorem m_f_Things_30 : Cond.fieldLink R_Things 30 "NounChoice$Things" "weights" "[I" ∈ lw_G := List.mem_filter.mpr ⟨List.mem_of_getElem? (i := 76) (by decide +kernel), rfl⟩
theorem m_f_Things_33 : Cond.fieldLink R_Things 33 "NounChoice$Things" "number" "I" ∈ lw_G := List.mem_filter.mpr ⟨List.mem_of_getElem? (i := 77) (by decide +kernel), rfl⟩
theorem m_arr_int : Cond.arrayClass .int ∈ lw_G := List.mem_filter.mpr ⟨List.mem_of_getElem? (i := 96) (by decide +kernel), rfl⟩
theorem m_l_NC_27 : Cond.classLink R_NC 27 R_Phrase ∈ lw_G := List.mem_filter.mpr ⟨List.mem_of_getElem? (i := 97) (by decide +kernel), rfl⟩
theorem m_inst_Phrase : Cond.instantiable R_Phrase 11 ∈ lw_G := List.mem_filter.mpr ⟨List.mem_of_getElem? (i := 98) (by decide +kernel), rfl⟩
theorem m_i_Phrase_init : Cond.instanceMethod y_Phrase_init ∈ lw_G := List.mem_filter.mpr ⟨List.mem_of_getElem? (i := 100) (by decide +kernel), rfl⟩
theorem m_code_Phrase_init : Cond.code y_Phrase_init b_Phrase_init 1 none ∈ lw_G := List.mem_filter.mpr ⟨List.mem_of_getElem? (i := 101) (by decide +kernel), rfl⟩
theorem m_o_Phrase_3 : Cond.methodLink R_Phrase 3 objectInit ∈ lw_G := List.mem_filter.mpr ⟨List.mem_of_getElem? (i := 102) (by decide +kernel), rfl⟩
theorem m_f_Phrase_9 : Cond.fieldLink R_Phrase 9 "NounChoice$Phrase" "amounts" "[I" ∈ lw_G := List.mem_filter.mpr ⟨List.mem_of_getElem? (i := 103) (by decide +kernel), rfl⟩
theorem m_f_Phrase_15 : Cond.fieldLink R_Phrase 15 "NounChoice$Phrase" "mains" "[I" ∈ lw_G := List.mem_filter.mpr ⟨List.mem_of_getElem? (i := 104) (by decide +kernel), rfl⟩
theorem m_f_Phrase_18 : Cond.fieldLink R_Phrase 18 "NounChoice$Phrase" "starts" "[I" ∈ lw_G := List.mem_filter.mpr ⟨List.mem_of_getElem? (i := 105) (by decide +kernel), rfl⟩
theorem m_f_Phrase_21 : Cond.fieldLink R_Phrase 21 "NounChoice$Phrase" "ends" "[I" ∈ lw_G := List.mem_filter.mpr ⟨List.mem_of_getElem? (i := 106) (by decide +kernel), rfl⟩
theorem m_f_Phrase_24 : Cond.fieldLink R_Phrase 24 "NounChoice$Phrase" "parts" "I" ∈ lw_G := List.mem_filter.mpr ⟨List.mem_of_getElem? (i := 107) (by decide +kernel), rfl⟩
theorem m_f_Phrase_28 : Cond.fieldLink R_Phrase 28 "NounChoice$Phrase" "articles" "[I" ∈ lw_G := List.mem_filter.mpr ⟨List.mem_of_getElem? (i := 109) (by decide +kernel), rfl⟩
theorem m_f_Phrase_31 : Cond.fieldLink R_Phrase 31 "NounChoice$Phrase" "leading" "[I" ∈ lw_G := List.mem_filter.mpr ⟨List.mem_of_getElem? (i := 110) (by decide +kernel), rfl⟩
theorem m_f_Phrase_34 : Cond.fieldLink R_Phrase 34 "NounChoice$Phrase" "lasts" "[I" ∈ lw_G := List.mem_filter.mpr ⟨List.mem_of_getElem? (i := 111) (by decide +kernel), rfl⟩
theorem m_f_Phrase_37 : Cond.fieldLink R_Phrase 37 "NounChoice$Phrase" "descriptions" "I" ∈ lw_G := List.mem_filter.mpr ⟨List.mem_of_getElem? (i := 112) (by decide +kernel), rfl⟩
theorem m_f_Phrase_40 : Cond.fieldLink R_Phrase 40 "NounChoice$Phrase" "state" "I" ∈ lw_G := List.mem_filter.mpr ⟨List.mem_of_getElem? (i := 113) (by decide +kernel), rfl⟩
theorem m_f_Phrase_43 : Cond.fieldLink R_Phrase 43 "NounChoice$Phrase" "words" "I" ∈ lw_G := List.mem_filter.mpr ⟨List.mem_of_getElem? (i := 114) (by decide +kernel), rfl⟩
theorem m_l_NC_40 : Cond.classLink R_NC 40 R_Picks ∈ lw_G := List.mem_filter.mpr ⟨List.mem_of_getElem? (i := 138) (by decide +kernel), rfl⟩
theorem m_inst_Picks : Cond.instantiable R_Picks 3 ∈ lw_G := List.mem_filter.mpr ⟨List.mem_of_getElem? (i := 139) (by decide +kernel), rfl⟩
theorem m_i_Picks_init : Cond.instanceMethod y_Picks_init ∈ lw_G := List.mem_filter.mpr ⟨List.mem_of_getElem? (i := 141) (by decide +kernel), rfl⟩
theorem m_code_Picks_init : Cond.code y_Picks_init b_Picks_init 1 none ∈ lw_G := List.mem_filter.mpr ⟨List.mem_of_getElem? (i := 142) (by decide +kernel), rfl⟩
theorem m_o_Picks_3 : Cond.methodLink R_Picks 3 objectInit ∈ lw_G := List.mem_filter.mpr ⟨List.mem_of_getElem? (i := 143) (by decide +kernel), rfl⟩
theorem m_f_Picks_9 : Cond.fieldLink R_Picks 9 "NounChoice$Picks" "order" "[I" ∈ lw_G := List.mem_filter.mpr ⟨List.mem_of_getElem? (i := 144) (by decide +kernel), rfl⟩
theorem m_f_Picks_15 : Cond.fieldLink R_Picks 15 "NounChoice$Picks" "size" "I" ∈ lw_G := List.mem_filter.mpr ⟨List.mem_of_getElem? (i := 145) (by decide +kernel), rfl⟩
theorem m_f_Picks_19 : Cond.fieldLink R_Picks 19 "NounChoice$Picks" "set" "I" ∈ lw_G := List.mem_filter.mpr ⟨List.mem_of_getElem? (i := 147) (by decide +kernel), rfl⟩
theorem m_m_NC_68 : Cond.methodLink R_NC 68 y_Arrays_fill ∈ lw_G := List.mem_filter.mpr ⟨List.mem_of_getElem? (i := 156) (by decide +kernel), rfl⟩
theorem m_f_NC_10 : Cond.fieldLink R_NC 10 "NounChoice" "things" "LNounChoice$Things;" ∈ lw_G := List.mem_filter.mpr ⟨List.mem_of_getElem? (i := 157) (by decide +kernel), rfl⟩
theorem m_f_NC_16 : Cond.fieldLink R_NC 16 "NounChoice" "row" "[I" ∈ lw_G := List.mem_filter.mpr ⟨List.mem_of_getElem? (i := 158) (by decide +kernel), rfl⟩
theorem m_f_NC_20 : Cond.fieldLink R_NC 20 "NounChoice" "rowSize" "I" ∈ lw_G := List.mem_filter.mpr ⟨List.mem_of_getElem? (i := 159) (by decide +kernel), rfl⟩
theorem m_f_NC_24 : Cond.fieldLink R_NC 24 "NounChoice" "mostChosen" "I" ∈ lw_G := List.mem_filter.mpr ⟨List.mem_of_getElem? (i := 160) (by decide +kernel), rfl⟩
theorem m_f_NC_30 : Cond.fieldLink R_NC 30 "NounChoice" "phrase" "LNounChoice$Phrase;" ∈ lw_G := List.mem_filter.mpr ⟨List.mem_of_getElem? (i := 161) (by decide +kernel), rfl⟩
theorem m_f_NC_34 : Cond.fieldLink R_NC 34 "NounChoice" "draft" "LNounChoice$Phrase;" ∈ lw_G := List.mem_filter.mpr ⟨List.mem_of_getElem? (i := 162) (by decide +kernel), rfl⟩
theorem m_f_NC_37 : Cond.fieldLink R_NC 37 "NounChoice" "leftBy" "[I" ∈ lw_G := List.mem_filter.mpr ⟨List.mem_of_getElem? (i := 163) (by decide +kernel), rfl⟩
theorem m_f_NC_43 : Cond.fieldLink R_NC 43 "NounChoice" "latest" "LNounChoice$Picks;" ∈ lw_G := List.mem_filter.mpr ⟨List.mem_of_getElem? (i := 164) (by decide +kernel), rfl⟩
theorem m_f_NC_47 : Cond.fieldLink R_NC 47 "NounChoice" "given" "LNounChoice$Picks;" ∈ lw_G := List.mem_filter.mpr ⟨List.mem_of_getElem? (i := 165) (by decide +kernel), rfl⟩
theorem m_f_NC_50 : Cond.fieldLink R_NC 50 "NounChoice" "candidates" "I" ∈ lw_G := List.mem_filter.mpr ⟨List.mem_of_getElem? (i := 166) (by decide +kernel), rfl⟩
theorem m_f_NC_53 : Cond.fieldLink R_NC 53 "NounChoice" "askedSet" "I" ∈ lw_G := List.mem_filter.mpr ⟨List.mem_of_getElem? (i := 167) (by decide +kernel), rfl⟩
theorem m_f_NC_56 : Cond.fieldLink R_NC 56 "NounChoice" "askedPart" "I" ∈ lw_G := List.mem_filter.mpr ⟨List.mem_of_getElem? (i := 168) (by decide +kernel), rfl⟩
theorem m_f_NC_59 : Cond.fieldLink R_NC 59 "NounChoice" "toldPart" "I" ∈ lw_G := List.mem_filter.mpr ⟨List.mem_of_getElem? (i := 169) (by decide +kernel), rfl⟩
theorem m_f_NC_62 : Cond.fieldLink R_NC 62 "NounChoice" "toldFault" "I" ∈ lw_G := List.mem_filter.mpr ⟨List.mem_of_getElem? (i := 170) (by decide +kernel), rfl⟩
theorem m_f_NC_65 : Cond.fieldLink R_NC 65 "NounChoice" "toldSize" "I" ∈ lw_G := List.mem_filter.mpr ⟨List.mem_of_getElem? (i := 171) (by decide +kernel), rfl⟩
theorem m_m_NC_74 : Cond.methodLink R_NC 74 y_Things_add ∈ lw_G := List.mem_filter.mpr ⟨List.mem_of_getElem? (i := 207) (by decide +kernel), rfl⟩
theorem m_i_Things_add : Cond.instanceMethod y_Things_add ∈ lw_G := List.mem_filter.mpr ⟨List.mem_of_getElem? (i := 208) (by decide +kernel), rfl⟩
theorem m_s_Things_add : Cond.selects R_Things y_Things_add y_Things_add ∈ lw_G := List.mem_filter.mpr ⟨List.mem_of_getElem? (i := 209) (by decide +kernel), rfl⟩
theorem m_code_Things_add : Cond.code y_Things_add b_Things_add 1 (some .int) ∈ lw_G := List.mem_filter.mpr ⟨List.mem_of_getElem? (i := 210) (by decide +kernel), rfl⟩
theorem m_m_NC_78 : Cond.methodLink R_NC 78 y_Things_setWord ∈ lw_G := List.mem_filter.mpr ⟨List.mem_of_getElem? (i := 215) (by decide +kernel), rfl⟩
theorem m_i_Things_setWord : Cond.instanceMethod y_Things_setWord ∈ lw_G := List.mem_filter.mpr ⟨List.mem_of_getElem? (i := 216) (by decide +kernel), rfl⟩
theorem m_s_Things_setWord : Cond.selects R_Things y_Things_setWord y_Things_setWord ∈ lw_G := List.mem_filter.mpr ⟨List.mem_of_getElem? (i := 217) (by decide +kernel), rfl⟩
theorem m_code_Things_setWord : Cond.code y_Things_setWord b_Things_setWord 7 (some .int) ∈ lw_G := List.mem_filter.mpr ⟨List.mem_of_getElem? (i := 218) (by decide +kernel), rfl⟩
theorem m_m_Things_43 : Cond.methodLink R_Things 43 y_Things_has ∈ lw_G := List.mem_filter.mpr ⟨List.mem_of_getElem? (i := 219) (by decide +kernel), rfl⟩
theorem m_i_Things_has : Cond.instanceMethod y_Things_has ∈ lw_G := List.mem_filter.mpr ⟨List.mem_of_getElem? (i := 220) (by decide +kernel), rfl⟩
theorem m_s_Things_has : Cond.selects R_Things y_Things_has y_Things_has ∈ lw_G := List.mem_filter.mpr ⟨List.mem_of_getElem? (i := 221) (by decide +kernel), rfl⟩
theorem m_code_Things_has : Cond.code y_Things_has b_Things_has 2 (some .boolean) ∈ lw_G := List.mem_filter.mpr ⟨List.mem_of_getElem? (i := 222) (by decide +kernel), rfl⟩
theorem m_t_NC_isWord : Cond.static y_NC_isWord ∈ lw_G := List.mem_filter.mpr ⟨List.mem_of_getElem? (i := 224) (by decide +kernel), rfl⟩
theorem m_code_NC_isWord : Cond.code y_NC_isWord b_NC_isWord 1 (some .boolean) ∈ lw_G := List.mem_filter.mpr ⟨List.mem_of_getElem? (i := 225) (by decide +kernel), rfl⟩
theorem m_m_NC_82 : Cond.methodLink R_NC 82 y_Things_setKind ∈ lw_G := List.mem_filter.mpr ⟨List.mem_of_getElem? (i := 230) (by decide +kernel), rfl⟩
theorem m_i_Things_setKind : Cond.instanceMethod y_Things_setKind ∈ lw_G := List.mem_filter.mpr ⟨List.mem_of_getElem? (i := 231) (by decide +kernel), rfl⟩
theorem m_s_Things_setKind : Cond.selects R_Things y_Things_setKind y_Things_setKind ∈ lw_G := List.mem_filter.mpr ⟨List.mem_of_getElem? (i := 232) (by decide +kernel), rfl⟩
theorem m_code_Things_setKind : Cond.code y_Things_setKind b_Things_setKind 4 (some .int) ∈ lw_G := List.mem_filter.mpr ⟨List.mem_of_getElem? (i := 233) (by decide +kernel), rfl⟩
theorem m_m_Things_50 : Cond.methodLink R_Things 50 y_Things_isKind ∈ lw_G := List.mem_filter.mpr ⟨List.mem_of_getElem? (i := 234) (by decide +kernel), rfl⟩
theorem m_t_Things_isKind : Cond.static y_Things_isKind ∈ lw_G := List.mem_filter.mpr ⟨List.mem_of_getElem? (i := 235) (by decide +kernel), rfl⟩
theorem m_code_Things_isKind : Cond.code y_Things_isKind b_Things_isKind 1 (some .boolean) ∈ lw_G := List.mem_filter.mpr ⟨List.mem_of_getElem? (i := 236) (by decide +kernel), rfl⟩
theorem m_m_NC_86 : Cond.methodLink R_NC 86 y_Things_setPlace ∈ lw_G := List.mem_filter.mpr ⟨List.mem_of_getElem? (i := 241) (by decide +kernel), rfl⟩
theorem m_i_Things_setPlace : Cond.instanceMethod y_Things_setPlace ∈ lw_G := List.mem_filter.mpr ⟨List.mem_of_getElem? (i := 242) (by decide +kernel), rfl⟩
theorem m_s_Things_setPlace : Cond.selects R_Things y_Things_setPlace y_Things_setPlace ∈ lw_G := List.mem_filter.mpr ⟨List.mem_of_getElem? (i := 243) (by decide +kernel), rfl⟩
theorem m_code_Things_setPlace : Cond.code y_Things_setPlace b_Things_setPlace 4 (some .int) ∈ lw_G := List.mem_filter.mpr ⟨List.mem_of_getElem? (i := 244) (by decide +kernel), rfl⟩
theorem m_m_NC_89 : Cond.methodLink R_NC 89 y_Things_setMark ∈ lw_G := List.mem_filter.mpr ⟨List.mem_of_getElem? (i := 249) (by decide +kernel), rfl⟩
theorem m_i_Things_setMark : Cond.instanceMethod y_Things_setMark ∈ lw_G := List.mem_filter.mpr ⟨List.mem_of_getElem? (i := 250) (by decide +kernel), rfl⟩
theorem m_s_Things_setMark : Cond.selects R_Things y_Things_setMark y_Things_setMark ∈ lw_G := List.mem_filter.mpr ⟨List.mem_of_getElem? (i := 251) (by decide +kernel), rfl⟩
theorem m_code_Things_setMark : Cond.code y_Things_setMark b_Things_setMark 6 (some .int) ∈ lw_G := List.mem_filter.mpr ⟨List.mem_of_getElem? (i := 252) (by decide +kernel), rfl⟩
theorem m_m_Things_53 : Cond.methodLink R_Things 53 y_Things_isRule ∈ lw_G := List.mem_filter.mpr ⟨List.mem_of_getElem? (i := 253) (by decide +kernel), rfl⟩
theorem m_t_Things_isRule : Cond.static y_Things_isRule ∈ lw_G := List.mem_filter.mpr ⟨List.mem_of_getElem? (i := 254) (by decide +kernel), rfl⟩
theorem m_code_Things_isRule : Cond.code y_Things_isRule b_Things_isRule 1 (some .boolean) ∈ lw_G := List.mem_filter.mpr ⟨List.mem_of_getElem? (i := 255) (by decide +kernel), rfl⟩
theorem m_m_NC_93 : Cond.methodLink R_NC 93 y_Things_setPlural ∈ lw_G := List.mem_filter.mpr ⟨List.mem_of_getElem? (i := 260) (by decide +kernel), rfl⟩
theorem m_i_Things_setPlural : Cond.instanceMethod y_Things_setPlural ∈ lw_G := List.mem_filter.mpr ⟨List.mem_of_getElem? (i := 261) (by decide +kernel), rfl⟩
theorem m_s_Things_setPlural : Cond.selects R_Things y_Things_setPlural y_Things_setPlural ∈ lw_G := List.mem_filter.mpr ⟨List.mem_of_getElem? (i := 262) (by decide +kernel), rfl⟩
theorem m_code_Things_setPlural : Cond.code y_Things_setPlural b_Things_setPlural 4 (some .int) ∈ lw_G := List.mem_filter.mpr ⟨List.mem_of_getElem? (i := 263) (by decide +kernel), rfl⟩
theorem m_m_NC_96 : Cond.methodLink R_NC 96 y_Things_setWeight ∈ lw_G := List.mem_filter.mpr ⟨List.mem_of_getElem? (i := 268) (by decide +kernel), rfl⟩
theorem m_i_Things_setWeight : Cond.instanceMethod y_Things_setWeight ∈ lw_G := List.mem_filter.mpr ⟨List.mem_of_getElem? (i := 269) (by decide +kernel), rfl⟩
theorem m_s_Things_setWeight : Cond.selects R_Things y_Things_setWeight y_Things_setWeight ∈ lw_G := List.mem_filter.mpr ⟨List.mem_of_getElem? (i := 270) (by decide +kernel), rfl⟩
theorem m_code_Things_setWeight : Cond.code y_Things_setWeight b_Things_setWeight 4 (some .int) ∈ lw_G := List.mem_filter.mpr ⟨List.mem_of_getElem? (i := 271) (by decide +kernel), rfl⟩
theorem m_m_NC_99 : Cond.methodLink R_NC 99 y_Things_has ∈ lw_G := List.mem_filter.mpr ⟨List.mem_of_getElem? (i := 280) (by decide +kernel), rfl⟩
theorem m_m_NC_103 : Cond.methodLink R_NC 103 y_Things_scoreOf ∈ lw_G := List.mem_filter.mpr ⟨List.mem_of_getElem? (i := 281) (by decide +kernel), rfl⟩
theorem m_i_Things_scoreOf : Cond.instanceMethod y_Things_scoreOf ∈ lw_G := List.mem_filter.mpr ⟨List.mem_of_getElem? (i := 282) (by decide +kernel), rfl⟩
theorem m_s_Things_scoreOf : Cond.selects R_Things y_Things_scoreOf y_Things_scoreOf ∈ lw_G := List.mem_filter.mpr ⟨List.mem_of_getElem? (i := 283) (by decide +kernel), rfl⟩
theorem m_code_Things_scoreOf : Cond.code y_Things_scoreOf b_Things_scoreOf 4 (some .int) ∈ lw_G := List.mem_filter.mpr ⟨List.mem_of_getElem? (i := 284) (by decide +kernel), rfl⟩
theorem m_m_NC_107 : Cond.methodLink R_NC 107 y_Things_areAlike ∈ lw_G := List.mem_filter.mpr ⟨List.mem_of_getElem? (i := 289) (by decide +kernel), rfl⟩
theorem m_i_Things_areAlike : Cond.instanceMethod y_Things_areAlike ∈ lw_G := List.mem_filter.mpr ⟨List.mem_of_getElem? (i := 290) (by decide +kernel), rfl⟩
theorem m_s_Things_areAlike : Cond.selects R_Things y_Things_areAlike y_Things_areAlike ∈ lw_G := List.mem_filter.mpr ⟨List.mem_of_getElem? (i := 291) (by decide +kernel), rfl⟩
theorem m_code_Things_areAlike : Cond.code y_Things_areAlike b_Things_areAlike 4 (some .boolean) ∈ lw_G := List.mem_filter.mpr ⟨List.mem_of_getElem? (i := 292) (by decide +kernel), rfl⟩
theorem m_m_NC_111 : Cond.methodLink R_NC 111 y_NC_isToken ∈ lw_G := List.mem_filter.mpr ⟨List.mem_of_getElem? (i := 297) (by decide +kernel), rfl⟩
theorem m_t_NC_isToken : Cond.static y_NC_isToken ∈ lw_G := List.mem_filter.mpr ⟨List.mem_of_getElem? (i := 298) (by decide +kernel), rfl⟩
theorem m_code_NC_isToken : Cond.code y_NC_isToken b_NC_isToken 1 (some .boolean) ∈ lw_G := List.mem_filter.mpr ⟨List.mem_of_getElem? (i := 299) (by decide +kernel), rfl⟩
theorem m_m_NC_177 : Cond.methodLink R_NC 177 y_NC_isNumber ∈ lw_G := List.mem_filter.mpr ⟨List.mem_of_getElem? (i := 300) (by decide +kernel), rfl⟩
theorem m_t_NC_isNumber : Cond.static y_NC_isNumber ∈ lw_G := List.mem_filter.mpr ⟨List.mem_of_getElem? (i := 301) (by decide +kernel), rfl⟩
theorem m_code_NC_isNumber : Cond.code y_NC_isNumber b_NC_isNumber 1 (some .boolean) ∈ lw_G := List.mem_filter.mpr ⟨List.mem_of_getElem? (i := 302) (by decide +kernel), rfl⟩
theorem m_m_NC_114 : Cond.methodLink R_NC 114 y_Phrase_read ∈ lw_G := List.mem_filter.mpr ⟨List.mem_of_getElem? (i := 311) (by decide +kernel), rfl⟩
theorem m_i_Phrase_read : Cond.instanceMethod y_Phrase_read ∈ lw_G := List.mem_filter.mpr ⟨List.mem_of_getElem? (i := 312) (by decide +kernel), rfl⟩
theorem m_s_Phrase_read : Cond.selects R_Phrase y_Phrase_read y_Phrase_read ∈ lw_G := List.mem_filter.mpr ⟨List.mem_of_getElem? (i := 313) (by decide +kernel), rfl⟩
theorem m_code_Phrase_read : Cond.code y_Phrase_read b_Phrase_read 4 (some .int) ∈ lw_G := List.mem_filter.mpr ⟨List.mem_of_getElem? (i := 314) (by decide +kernel), rfl⟩
theorem m_m_Phrase_46 : Cond.methodLink R_Phrase 46 y_Phrase_take ∈ lw_G := List.mem_filter.mpr ⟨List.mem_of_getElem? (i := 315) (by decide +kernel), rfl⟩
theorem m_i_Phrase_take : Cond.instanceMethod y_Phrase_take ∈ lw_G := List.mem_filter.mpr ⟨List.mem_of_getElem? (i := 317) (by decide +kernel), rfl⟩
theorem m_code_Phrase_take : Cond.code y_Phrase_take b_Phrase_take 2 (some .boolean) ∈ lw_G := List.mem_filter.mpr ⟨List.mem_of_getElem? (i := 318) (by decide +kernel), rfl⟩
theorem m_m_Phrase_50 : Cond.methodLink R_Phrase 50 y_Phrase_mayEnd ∈ lw_G := List.mem_filter.mpr ⟨List.mem_of_getElem? (i := 319) (by decide +kernel), rfl⟩
theorem m_i_Phrase_mayEnd : Cond.instanceMethod y_Phrase_mayEnd ∈ lw_G := List.mem_filter.mpr ⟨List.mem_of_getElem? (i := 321) (by decide +kernel), rfl⟩
theorem m_code_Phrase_mayEnd : Cond.code y_Phrase_mayEnd b_Phrase_mayEnd 1 (some .boolean) ∈ lw_G := List.mem_filter.mpr ⟨List.mem_of_getElem? (i := 322) (by decide +kernel), rfl⟩
theorem m_m_Phrase_60 : Cond.methodLink R_Phrase 60 y_Phrase_closePart ∈ lw_G := List.mem_filter.mpr ⟨List.mem_of_getElem? (i := 323) (by decide +kernel), rfl⟩
theorem m_i_Phrase_closePart : Cond.instanceMethod y_Phrase_closePart ∈ lw_G := List.mem_filter.mpr ⟨List.mem_of_getElem? (i := 325) (by decide +kernel), rfl⟩
theorem m_code_Phrase_closePart : Cond.code y_Phrase_closePart b_Phrase_closePart 1 (some .boolean) ∈ lw_G := List.mem_filter.mpr ⟨List.mem_of_getElem? (i := 326) (by decide +kernel), rfl⟩
theorem m_m_Phrase_63 : Cond.methodLink R_Phrase 63 y_Phrase_amountOf ∈ lw_G := List.mem_filter.mpr ⟨List.mem_of_getElem? (i := 327) (by decide +kernel), rfl⟩
theorem m_i_Phrase_amountOf : Cond.instanceMethod y_Phrase_amountOf ∈ lw_G := List.mem_filter.mpr ⟨List.mem_of_getElem? (i := 328) (by decide +kernel), rfl⟩
theorem m_s_Phrase_amountOf : Cond.selects R_Phrase y_Phrase_amountOf y_Phrase_amountOf ∈ lw_G := List.mem_filter.mpr ⟨List.mem_of_getElem? (i := 329) (by decide +kernel), rfl⟩
theorem m_code_Phrase_amountOf : Cond.code y_Phrase_amountOf b_Phrase_amountOf 2 (some .int) ∈ lw_G := List.mem_filter.mpr ⟨List.mem_of_getElem? (i := 330) (by decide +kernel), rfl⟩
theorem m_m_Phrase_54 : Cond.methodLink R_Phrase 54 y_Phrase_isPart ∈ lw_G := List.mem_filter.mpr ⟨List.mem_of_getElem? (i := 331) (by decide +kernel), rfl⟩
theorem m_i_Phrase_isPart : Cond.instanceMethod y_Phrase_isPart ∈ lw_G := List.mem_filter.mpr ⟨List.mem_of_getElem? (i := 333) (by decide +kernel), rfl⟩
theorem m_code_Phrase_isPart : Cond.code y_Phrase_isPart b_Phrase_isPart 2 (some .boolean) ∈ lw_G := List.mem_filter.mpr ⟨List.mem_of_getElem? (i := 334) (by decide +kernel), rfl⟩
theorem m_m_Phrase_67 : Cond.methodLink R_Phrase 67 y_Phrase_openDescription ∈ lw_G := List.mem_filter.mpr ⟨List.mem_of_getElem? (i := 335) (by decide +kernel), rfl⟩
theorem m_i_Phrase_openDescription : Cond.instanceMethod y_Phrase_openDescription ∈ lw_G := List.mem_filter.mpr ⟨List.mem_of_getElem? (i := 337) (by decide +kernel), rfl⟩
theorem m_code_Phrase_openDescription : Cond.code y_Phrase_openDescription b_Phrase_openDescription 2 (some .boolean) ∈ lw_G := List.mem_filter.mpr ⟨List.mem_of_getElem? (i := 338) (by decide +kernel), rfl⟩
theorem m_m_Phrase_70 : Cond.methodLink R_Phrase 70 y_Phrase_takeAtPart ∈ lw_G := List.mem_filter.mpr ⟨List.mem_of_getElem? (i := 339) (by decide +kernel), rfl⟩
theorem m_i_Phrase_takeAtPart : Cond.instanceMethod y_Phrase_takeAtPart ∈ lw_G := List.mem_filter.mpr ⟨List.mem_of_getElem? (i := 341) (by decide +kernel), rfl⟩
theorem m_code_Phrase_takeAtPart : Cond.code y_Phrase_takeAtPart b_Phrase_takeAtPart 2 (some .boolean) ∈ lw_G := List.mem_filter.mpr ⟨List.mem_of_getElem? (i := 342) (by decide +kernel), rfl⟩
theorem m_m_Phrase_79 : Cond.methodLink R_Phrase 79 y_Phrase_openPart ∈ lw_G := List.mem_filter.mpr ⟨List.mem_of_getElem? (i := 343) (by decide +kernel), rfl⟩
theorem m_i_Phrase_openPart : Cond.instanceMethod y_Phrase_openPart ∈ lw_G := List.mem_filter.mpr ⟨List.mem_of_getElem? (i := 345) (by decide +kernel), rfl⟩
theorem m_code_Phrase_openPart : Cond.code y_Phrase_openPart b_Phrase_openPart 1 (some .boolean) ∈ lw_G := List.mem_filter.mpr ⟨List.mem_of_getElem? (i := 346) (by decide +kernel), rfl⟩
theorem m_m_Phrase_82 : Cond.methodLink R_Phrase 82 y_Phrase_setAmount ∈ lw_G := List.mem_filter.mpr ⟨List.mem_of_getElem? (i := 347) (by decide +kernel), rfl⟩
theorem m_i_Phrase_setAmount : Cond.instanceMethod y_Phrase_setAmount ∈ lw_G := List.mem_filter.mpr ⟨List.mem_of_getElem? (i := 349) (by decide +kernel), rfl⟩
theorem m_code_Phrase_setAmount : Cond.code y_Phrase_setAmount b_Phrase_setAmount 4 (some .boolean) ∈ lw_G := List.mem_filter.mpr ⟨List.mem_of_getElem? (i := 350) (by decide +kernel), rfl⟩
theorem m_m_Phrase_73 : Cond.methodLink R_Phrase 73 y_Phrase_openMain ∈ lw_G := List.mem_filter.mpr ⟨List.mem_of_getElem? (i := 352) (by decide +kernel), rfl⟩
theorem m_i_Phrase_openMain : Cond.instanceMethod y_Phrase_openMain ∈ lw_G := List.mem_filter.mpr ⟨List.mem_of_getElem? (i := 354) (by decide +kernel), rfl⟩
theorem m_code_Phrase_openMain : Cond.code y_Phrase_openMain b_Phrase_openMain 2 (some .boolean) ∈ lw_G := List.mem_filter.mpr ⟨List.mem_of_getElem? (i := 355) (by decide +kernel), rfl⟩
theorem m_m_Phrase_76 : Cond.methodLink R_Phrase 76 y_Phrase_takeInDescription ∈ lw_G := List.mem_filter.mpr ⟨List.mem_of_getElem? (i := 356) (by decide +kernel), rfl⟩
theorem m_i_Phrase_takeInDescription : Cond.instanceMethod y_Phrase_takeInDescription ∈ lw_G := List.mem_filter.mpr ⟨List.mem_of_getElem? (i := 358) (by decide +kernel), rfl⟩
theorem m_code_Phrase_takeInDescription : Cond.code y_Phrase_takeInDescription b_Phrase_takeInDescription 3 (some .boolean) ∈ lw_G := List.mem_filter.mpr ⟨List.mem_of_getElem? (i := 359) (by decide +kernel), rfl⟩
theorem m_m_Phrase_92 : Cond.methodLink R_Phrase 92 y_Phrase_addWord ∈ lw_G := List.mem_filter.mpr ⟨List.mem_of_getElem? (i := 361) (by decide +kernel), rfl⟩
theorem m_i_Phrase_addWord : Cond.instanceMethod y_Phrase_addWord ∈ lw_G := List.mem_filter.mpr ⟨List.mem_of_getElem? (i := 363) (by decide +kernel), rfl⟩
theorem m_code_Phrase_addWord : Cond.code y_Phrase_addWord b_Phrase_addWord 3 (some .boolean) ∈ lw_G := List.mem_filter.mpr ⟨List.mem_of_getElem? (i := 364) (by decide +kernel), rfl⟩
theorem m_m_Phrase_57 : Cond.methodLink R_Phrase 57 y_Phrase_isOwn ∈ lw_G := List.mem_filter.mpr ⟨List.mem_of_getElem? (i := 365) (by decide +kernel), rfl⟩
theorem m_i_Phrase_isOwn : Cond.instanceMethod y_Phrase_isOwn ∈ lw_G := List.mem_filter.mpr ⟨List.mem_of_getElem? (i := 367) (by decide +kernel), rfl⟩
theorem m_code_Phrase_isOwn : Cond.code y_Phrase_isOwn b_Phrase_isOwn 2 (some .boolean) ∈ lw_G := List.mem_filter.mpr ⟨List.mem_of_getElem? (i := 368) (by decide +kernel), rfl⟩
theorem m_t_NC_isArticle : Cond.static y_NC_isArticle ∈ lw_G := List.mem_filter.mpr ⟨List.mem_of_getElem? (i := 370) (by decide +kernel), rfl⟩
theorem m_code_NC_isArticle : Cond.code y_NC_isArticle b_NC_isArticle 1 (some .boolean) ∈ lw_G := List.mem_filter.mpr ⟨List.mem_of_getElem? (i := 371) (by decide +kernel), rfl⟩
theorem m_m_Phrase_98 : Cond.methodLink R_Phrase 98 y_Phrase_tells ∈ lw_G := List.mem_filter.mpr ⟨List.mem_of_getElem? (i := 372) (by decide +kernel), rfl⟩
theorem m_i_Phrase_tells : Cond.instanceMethod y_Phrase_tells ∈ lw_G := List.mem_filter.mpr ⟨List.mem_of_getElem? (i := 373) (by decide +kernel), rfl⟩
theorem m_s_Phrase_tells : Cond.selects R_Phrase y_Phrase_tells y_Phrase_tells ∈ lw_G := List.mem_filter.mpr ⟨List.mem_of_getElem? (i := 374) (by decide +kernel), rfl⟩
theorem m_code_Phrase_tells : Cond.code y_Phrase_tells b_Phrase_tells 3 (some .boolean) ∈ lw_G := List.mem_filter.mpr ⟨List.mem_of_getElem? (i := 375) (by decide +kernel), rfl⟩
theorem m_m_NC_118 : Cond.methodLink R_NC 118 y_Phrase_isDescription ∈ lw_G := List.mem_filter.mpr ⟨List.mem_of_getElem? (i := 376) (by decide +kernel), rfl⟩
theorem m_i_Phrase_isDescription : Cond.instanceMethod y_Phrase_isDescription ∈ lw_G := List.mem_filter.mpr ⟨List.mem_of_getElem? (i := 377) (by decide +kernel), rfl⟩
theorem m_s_Phrase_isDescription : Cond.selects R_Phrase y_Phrase_isDescription y_Phrase_isDescription ∈ lw_G := List.mem_filter.mpr ⟨List.mem_of_getElem? (i := 378) (by decide +kernel), rfl⟩
theorem m_code_Phrase_isDescription : Cond.code y_Phrase_isDescription b_Phrase_isDescription 1 (some .boolean) ∈ lw_G := List.mem_filter.mpr ⟨List.mem_of_getElem? (i := 379) (by decide +kernel), rfl⟩
theorem m_m_NC_122 : Cond.methodLink R_NC 122 y_NC_fittingSet ∈ lw_G := List.mem_filter.mpr ⟨List.mem_of_getElem? (i := 380) (by decide +kernel), rfl⟩
theorem m_i_NC_fittingSet : Cond.instanceMethod y_NC_fittingSet ∈ lw_G := List.mem_filter.mpr ⟨List.mem_of_getElem? (i := 382) (by decide +kernel), rfl⟩
theorem m_code_NC_fittingSet : Cond.code y_NC_fittingSet b_NC_fittingSet 8 (some .int) ∈ lw_G := List.mem_filter.mpr ⟨List.mem_of_getElem? (i := 383) (by decide +kernel), rfl⟩
theorem m_m_NC_226 : Cond.methodLink R_NC 226 y_Phrase_leadingOf ∈ lw_G := List.mem_filter.mpr ⟨List.mem_of_getElem? (i := 384) (by decide +kernel), rfl⟩
theorem m_i_Phrase_leadingOf : Cond.instanceMethod y_Phrase_leadingOf ∈ lw_G := List.mem_filter.mpr ⟨List.mem_of_getElem? (i := 385) (by decide +kernel), rfl⟩
theorem m_s_Phrase_leadingOf : Cond.selects R_Phrase y_Phrase_leadingOf y_Phrase_leadingOf ∈ lw_G := List.mem_filter.mpr ⟨List.mem_of_getElem? (i := 386) (by decide +kernel), rfl⟩
theorem m_code_Phrase_leadingOf : Cond.code y_Phrase_leadingOf b_Phrase_leadingOf 2 (some .int) ∈ lw_G := List.mem_filter.mpr ⟨List.mem_of_getElem? (i := 387) (by decide +kernel), rfl⟩
theorem m_m_NC_229 : Cond.methodLink R_NC 229 y_Phrase_lastOf ∈ lw_G := List.mem_filter.mpr ⟨List.mem_of_getElem? (i := 388) (by decide +kernel), rfl⟩
theorem m_i_Phrase_lastOf : Cond.instanceMethod y_Phrase_lastOf ∈ lw_G := List.mem_filter.mpr ⟨List.mem_of_getElem? (i := 389) (by decide +kernel), rfl⟩
theorem m_s_Phrase_lastOf : Cond.selects R_Phrase y_Phrase_lastOf y_Phrase_lastOf ∈ lw_G := List.mem_filter.mpr ⟨List.mem_of_getElem? (i := 390) (by decide +kernel), rfl⟩
theorem m_code_Phrase_lastOf : Cond.code y_Phrase_lastOf b_Phrase_lastOf 2 (some .int) ∈ lw_G := List.mem_filter.mpr ⟨List.mem_of_getElem? (i := 391) (by decide +kernel), rfl⟩
theorem m_m_NC_232 : Cond.methodLink R_NC 232 y_Things_fitByWords ∈ lw_G := List.mem_filter.mpr ⟨List.mem_of_getElem? (i := 392) (by decide +kernel), rfl⟩
theorem m_i_Things_fitByWords : Cond.instanceMethod y_Things_fitByWords ∈ lw_G := List.mem_filter.mpr ⟨List.mem_of_getElem? (i := 393) (by decide +kernel), rfl⟩
theorem m_s_Things_fitByWords : Cond.selects R_Things y_Things_fitByWords y_Things_fitByWords ∈ lw_G := List.mem_filter.mpr ⟨List.mem_of_getElem? (i := 394) (by decide +kernel), rfl⟩
theorem m_code_Things_fitByWords : Cond.code y_Things_fitByWords b_Things_fitByWords 7 (some .int) ∈ lw_G := List.mem_filter.mpr ⟨List.mem_of_getElem? (i := 395) (by decide +kernel), rfl⟩
theorem m_m_NC_222 : Cond.methodLink R_NC 222 y_Phrase_tells ∈ lw_G := List.mem_filter.mpr ⟨List.mem_of_getElem? (i := 396) (by decide +kernel), rfl⟩
theorem m_m_NC_171 : Cond.methodLink R_NC 171 y_Things_placedSet ∈ lw_G := List.mem_filter.mpr ⟨List.mem_of_getElem? (i := 397) (by decide +kernel), rfl⟩
theorem m_i_Things_placedSet : Cond.instanceMethod y_Things_placedSet ∈ lw_G := List.mem_filter.mpr ⟨List.mem_of_getElem? (i := 398) (by decide +kernel), rfl⟩
theorem m_s_Things_placedSet : Cond.selects R_Things y_Things_placedSet y_Things_placedSet ∈ lw_G := List.mem_filter.mpr ⟨List.mem_of_getElem? (i := 399) (by decide +kernel), rfl⟩
theorem m_code_Things_placedSet : Cond.code y_Things_placedSet b_Things_placedSet 4 (some .int) ∈ lw_G := List.mem_filter.mpr ⟨List.mem_of_getElem? (i := 400) (by decide +kernel), rfl⟩
theorem m_m_NC_126 : Cond.methodLink R_NC 126 y_NC_holds ∈ lw_G := List.mem_filter.mpr ⟨List.mem_of_getElem? (i := 401) (by decide +kernel), rfl⟩
theorem m_t_NC_holds : Cond.static y_NC_holds ∈ lw_G := List.mem_filter.mpr ⟨List.mem_of_getElem? (i := 402) (by decide +kernel), rfl⟩
theorem m_code_NC_holds : Cond.code y_NC_holds b_NC_holds 2 (some .boolean) ∈ lw_G := List.mem_filter.mpr ⟨List.mem_of_getElem? (i := 403) (by decide +kernel), rfl⟩
theorem m_m_NC_129 : Cond.methodLink R_NC 129 y_NC_refuseRow ∈ lw_G := List.mem_filter.mpr ⟨List.mem_of_getElem? (i := 408) (by decide +kernel), rfl⟩
theorem m_i_NC_refuseRow : Cond.instanceMethod y_NC_refuseRow ∈ lw_G := List.mem_filter.mpr ⟨List.mem_of_getElem? (i := 410) (by decide +kernel), rfl⟩
theorem m_code_NC_refuseRow : Cond.code y_NC_refuseRow b_NC_refuseRow 2 (some .int) ∈ lw_G := List.mem_filter.mpr ⟨List.mem_of_getElem? (i := 411) (by decide +kernel), rfl⟩
theorem m_m_NC_141 : Cond.methodLink R_NC 141 y_NC_tell ∈ lw_G := List.mem_filter.mpr ⟨List.mem_of_getElem? (i := 412) (by decide +kernel), rfl⟩
theorem m_i_NC_tell : Cond.instanceMethod y_NC_tell ∈ lw_G := List.mem_filter.mpr ⟨List.mem_of_getElem? (i := 414) (by decide +kernel), rfl⟩
theorem m_code_NC_tell : Cond.code y_NC_tell b_NC_tell 4 none ∈ lw_G := List.mem_filter.mpr ⟨List.mem_of_getElem? (i := 415) (by decide +kernel), rfl⟩
theorem m_m_NC_132 : Cond.methodLink R_NC 132 y_NC_goThrough ∈ lw_G := List.mem_filter.mpr ⟨List.mem_of_getElem? (i := 416) (by decide +kernel), rfl⟩
theorem m_i_NC_goThrough : Cond.instanceMethod y_NC_goThrough ∈ lw_G := List.mem_filter.mpr ⟨List.mem_of_getElem? (i := 418) (by decide +kernel), rfl⟩
theorem m_code_NC_goThrough : Cond.code y_NC_goThrough b_NC_goThrough 3 (some .int) ∈ lw_G := List.mem_filter.mpr ⟨List.mem_of_getElem? (i := 419) (by decide +kernel), rfl⟩
theorem m_m_NC_180 : Cond.methodLink R_NC 180 y_Picks_clear ∈ lw_G := List.mem_filter.mpr ⟨List.mem_of_getElem? (i := 420) (by decide +kernel), rfl⟩
theorem m_i_Picks_clear : Cond.instanceMethod y_Picks_clear ∈ lw_G := List.mem_filter.mpr ⟨List.mem_of_getElem? (i := 421) (by decide +kernel), rfl⟩
theorem m_s_Picks_clear : Cond.selects R_Picks y_Picks_clear y_Picks_clear ∈ lw_G := List.mem_filter.mpr ⟨List.mem_of_getElem? (i := 422) (by decide +kernel), rfl⟩
theorem m_code_Picks_clear : Cond.code y_Picks_clear b_Picks_clear 1 none ∈ lw_G := List.mem_filter.mpr ⟨List.mem_of_getElem? (i := 423) (by decide +kernel), rfl⟩
theorem m_m_NC_183 : Cond.methodLink R_NC 183 y_NC_goThroughPart ∈ lw_G := List.mem_filter.mpr ⟨List.mem_of_getElem? (i := 424) (by decide +kernel), rfl⟩
theorem m_i_NC_goThroughPart : Cond.instanceMethod y_NC_goThroughPart ∈ lw_G := List.mem_filter.mpr ⟨List.mem_of_getElem? (i := 426) (by decide +kernel), rfl⟩
theorem m_code_NC_goThroughPart : Cond.code y_NC_goThroughPart b_NC_goThroughPart 5 (some .int) ∈ lw_G := List.mem_filter.mpr ⟨List.mem_of_getElem? (i := 427) (by decide +kernel), rfl⟩
theorem m_m_NC_189 : Cond.methodLink R_NC 189 y_Phrase_mainOf ∈ lw_G := List.mem_filter.mpr ⟨List.mem_of_getElem? (i := 428) (by decide +kernel), rfl⟩
theorem m_i_Phrase_mainOf : Cond.instanceMethod y_Phrase_mainOf ∈ lw_G := List.mem_filter.mpr ⟨List.mem_of_getElem? (i := 429) (by decide +kernel), rfl⟩
theorem m_s_Phrase_mainOf : Cond.selects R_Phrase y_Phrase_mainOf y_Phrase_mainOf ∈ lw_G := List.mem_filter.mpr ⟨List.mem_of_getElem? (i := 430) (by decide +kernel), rfl⟩
theorem m_code_Phrase_mainOf : Cond.code y_Phrase_mainOf b_Phrase_mainOf 2 (some .int) ∈ lw_G := List.mem_filter.mpr ⟨List.mem_of_getElem? (i := 431) (by decide +kernel), rfl⟩
theorem m_m_NC_192 : Cond.methodLink R_NC 192 y_Things_allSet ∈ lw_G := List.mem_filter.mpr ⟨List.mem_of_getElem? (i := 432) (by decide +kernel), rfl⟩
theorem m_i_Things_allSet : Cond.instanceMethod y_Things_allSet ∈ lw_G := List.mem_filter.mpr ⟨List.mem_of_getElem? (i := 433) (by decide +kernel), rfl⟩
theorem m_s_Things_allSet : Cond.selects R_Things y_Things_allSet y_Things_allSet ∈ lw_G := List.mem_filter.mpr ⟨List.mem_of_getElem? (i := 434) (by decide +kernel), rfl⟩
theorem m_code_Things_allSet : Cond.code y_Things_allSet b_Things_allSet 3 (some .int) ∈ lw_G := List.mem_filter.mpr ⟨List.mem_of_getElem? (i := 435) (by decide +kernel), rfl⟩
theorem m_m_NC_168 : Cond.methodLink R_NC 168 y_Things_thereSet ∈ lw_G := List.mem_filter.mpr ⟨List.mem_of_getElem? (i := 436) (by decide +kernel), rfl⟩
theorem m_i_Things_thereSet : Cond.instanceMethod y_Things_thereSet ∈ lw_G := List.mem_filter.mpr ⟨List.mem_of_getElem? (i := 437) (by decide +kernel), rfl⟩
theorem m_s_Things_thereSet : Cond.selects R_Things y_Things_thereSet y_Things_thereSet ∈ lw_G := List.mem_filter.mpr ⟨List.mem_of_getElem? (i := 438) (by decide +kernel), rfl⟩
theorem m_code_Things_thereSet : Cond.code y_Things_thereSet b_Things_thereSet 1 (some .int) ∈ lw_G := List.mem_filter.mpr ⟨List.mem_of_getElem? (i := 439) (by decide +kernel), rfl⟩
theorem m_m_Things_56 : Cond.methodLink R_Things 56 y_Things_placedSet ∈ lw_G := List.mem_filter.mpr ⟨List.mem_of_getElem? (i := 440) (by decide +kernel), rfl⟩
theorem m_m_NC_195 : Cond.methodLink R_NC 195 y_NC_takeExceptsAway ∈ lw_G := List.mem_filter.mpr ⟨List.mem_of_getElem? (i := 441) (by decide +kernel), rfl⟩
theorem m_i_NC_takeExceptsAway : Cond.instanceMethod y_NC_takeExceptsAway ∈ lw_G := List.mem_filter.mpr ⟨List.mem_of_getElem? (i := 443) (by decide +kernel), rfl⟩
theorem m_code_NC_takeExceptsAway : Cond.code y_NC_takeExceptsAway b_NC_takeExceptsAway 5 (some .boolean) ∈ lw_G := List.mem_filter.mpr ⟨List.mem_of_getElem? (i := 444) (by decide +kernel), rfl⟩
theorem m_m_NC_210 : Cond.methodLink R_NC 210 y_Phrase_exceptsEnd ∈ lw_G := List.mem_filter.mpr ⟨List.mem_of_getElem? (i := 445) (by decide +kernel), rfl⟩
theorem m_i_Phrase_exceptsEnd : Cond.instanceMethod y_Phrase_exceptsEnd ∈ lw_G := List.mem_filter.mpr ⟨List.mem_of_getElem? (i := 446) (by decide +kernel), rfl⟩
theorem m_s_Phrase_exceptsEnd : Cond.selects R_Phrase y_Phrase_exceptsEnd y_Phrase_exceptsEnd ∈ lw_G := List.mem_filter.mpr ⟨List.mem_of_getElem? (i := 447) (by decide +kernel), rfl⟩
theorem m_code_Phrase_exceptsEnd : Cond.code y_Phrase_exceptsEnd b_Phrase_exceptsEnd 2 (some .int) ∈ lw_G := List.mem_filter.mpr ⟨List.mem_of_getElem? (i := 448) (by decide +kernel), rfl⟩
theorem m_m_NC_213 : Cond.methodLink R_NC 213 y_Phrase_exceptsStart ∈ lw_G := List.mem_filter.mpr ⟨List.mem_of_getElem? (i := 449) (by decide +kernel), rfl⟩
theorem m_i_Phrase_exceptsStart : Cond.instanceMethod y_Phrase_exceptsStart ∈ lw_G := List.mem_filter.mpr ⟨List.mem_of_getElem? (i := 450) (by decide +kernel), rfl⟩
theorem m_s_Phrase_exceptsStart : Cond.selects R_Phrase y_Phrase_exceptsStart y_Phrase_exceptsStart ∈ lw_G := List.mem_filter.mpr ⟨List.mem_of_getElem? (i := 451) (by decide +kernel), rfl⟩
theorem m_code_Phrase_exceptsStart : Cond.code y_Phrase_exceptsStart b_Phrase_exceptsStart 2 (some .int) ∈ lw_G := List.mem_filter.mpr ⟨List.mem_of_getElem? (i := 452) (by decide +kernel), rfl⟩
theorem m_m_NC_198 : Cond.methodLink R_NC 198 y_Phrase_amountOf ∈ lw_G := List.mem_filter.mpr ⟨List.mem_of_getElem? (i := 453) (by decide +kernel), rfl⟩
theorem m_m_NC_201 : Cond.methodLink R_NC 201 y_NC_giveNumber ∈ lw_G := List.mem_filter.mpr ⟨List.mem_of_getElem? (i := 454) (by decide +kernel), rfl⟩
theorem m_i_NC_giveNumber : Cond.instanceMethod y_NC_giveNumber ∈ lw_G := List.mem_filter.mpr ⟨List.mem_of_getElem? (i := 456) (by decide +kernel), rfl⟩
theorem m_code_NC_giveNumber : Cond.code y_NC_giveNumber b_NC_giveNumber 4 (some .int) ∈ lw_G := List.mem_filter.mpr ⟨List.mem_of_getElem? (i := 457) (by decide +kernel), rfl⟩
theorem m_m_NC_154 : Cond.methodLink R_NC 154 y_Integer_bitCount ∈ lw_G := List.mem_filter.mpr ⟨List.mem_of_getElem? (i := 458) (by decide +kernel), rfl⟩
theorem m_t_Integer_bitCount : Cond.static y_Integer_bitCount ∈ lw_G := List.mem_filter.mpr ⟨List.mem_of_getElem? (i := 459) (by decide +kernel), rfl⟩
theorem m_code_Integer_bitCount : Cond.code y_Integer_bitCount b_Integer_bitCount 1 (some .int) ∈ lw_G := List.mem_filter.mpr ⟨List.mem_of_getElem? (i := 460) (by decide +kernel), rfl⟩
theorem m_c_Integer_265 : Cond.constant R_Integer 265 1431655765 ∈ lw_G := List.mem_filter.mpr ⟨List.mem_of_getElem? (i := 461) (by decide +kernel), rfl⟩
theorem m_c_Integer_266 : Cond.constant R_Integer 266 858993459 ∈ lw_G := List.mem_filter.mpr ⟨List.mem_of_getElem? (i := 462) (by decide +kernel), rfl⟩
theorem m_c_Integer_267 : Cond.constant R_Integer 267 252645135 ∈ lw_G := List.mem_filter.mpr ⟨List.mem_of_getElem? (i := 463) (by decide +kernel), rfl⟩
theorem m_m_NC_216 : Cond.methodLink R_NC 216 y_NC_bestOf ∈ lw_G := List.mem_filter.mpr ⟨List.mem_of_getElem? (i := 464) (by decide +kernel), rfl⟩
theorem m_i_NC_bestOf : Cond.instanceMethod y_NC_bestOf ∈ lw_G := List.mem_filter.mpr ⟨List.mem_of_getElem? (i := 466) (by decide +kernel), rfl⟩
theorem m_code_NC_bestOf : Cond.code y_NC_bestOf b_NC_bestOf 6 (some .int) ∈ lw_G := List.mem_filter.mpr ⟨List.mem_of_getElem? (i := 467) (by decide +kernel), rfl⟩
theorem m_c_NC_225 : Cond.constant R_NC 225 (-2147483648) ∈ lw_G := List.mem_filter.mpr ⟨List.mem_of_getElem? (i := 468) (by decide +kernel), rfl⟩
theorem m_m_NC_219 : Cond.methodLink R_NC 219 y_NC_leastOf ∈ lw_G := List.mem_filter.mpr ⟨List.mem_of_getElem? (i := 469) (by decide +kernel), rfl⟩
theorem m_t_NC_leastOf : Cond.static y_NC_leastOf ∈ lw_G := List.mem_filter.mpr ⟨List.mem_of_getElem? (i := 470) (by decide +kernel), rfl⟩
theorem m_code_NC_leastOf : Cond.code y_NC_leastOf b_NC_leastOf 1 (some .int) ∈ lw_G := List.mem_filter.mpr ⟨List.mem_of_getElem? (i := 471) (by decide +kernel), rfl⟩
theorem m_m_NC_204 : Cond.methodLink R_NC 204 y_Picks_add ∈ lw_G := List.mem_filter.mpr ⟨List.mem_of_getElem? (i := 472) (by decide +kernel), rfl⟩
theorem m_i_Picks_add : Cond.instanceMethod y_Picks_add ∈ lw_G := List.mem_filter.mpr ⟨List.mem_of_getElem? (i := 473) (by decide +kernel), rfl⟩
theorem m_s_Picks_add : Cond.selects R_Picks y_Picks_add y_Picks_add ∈ lw_G := List.mem_filter.mpr ⟨List.mem_of_getElem? (i := 474) (by decide +kernel), rfl⟩
theorem m_code_Picks_add : Cond.code y_Picks_add b_Picks_add 3 none ∈ lw_G := List.mem_filter.mpr ⟨List.mem_of_getElem? (i := 475) (by decide +kernel), rfl⟩
theorem m_m_NC_207 : Cond.methodLink R_NC 207 y_NC_giveMeant ∈ lw_G := List.mem_filter.mpr ⟨List.mem_of_getElem? (i := 477) (by decide +kernel), rfl⟩
theorem m_i_NC_giveMeant : Cond.instanceMethod y_NC_giveMeant ∈ lw_G := List.mem_filter.mpr ⟨List.mem_of_getElem? (i := 479) (by decide +kernel), rfl⟩
theorem m_code_NC_giveMeant : Cond.code y_NC_giveMeant b_NC_giveMeant 6 (some .int) ∈ lw_G := List.mem_filter.mpr ⟨List.mem_of_getElem? (i := 480) (by decide +kernel), rfl⟩
theorem m_m_NC_151 : Cond.methodLink R_NC 151 y_NC_leadersOf ∈ lw_G := List.mem_filter.mpr ⟨List.mem_of_getElem? (i := 481) (by decide +kernel), rfl⟩
theorem m_i_NC_leadersOf : Cond.instanceMethod y_NC_leadersOf ∈ lw_G := List.mem_filter.mpr ⟨List.mem_of_getElem? (i := 483) (by decide +kernel), rfl⟩
theorem m_code_NC_leadersOf : Cond.code y_NC_leadersOf b_NC_leadersOf 6 (some .int) ∈ lw_G := List.mem_filter.mpr ⟨List.mem_of_getElem? (i := 484) (by decide +kernel), rfl⟩
theorem m_m_NC_186 : Cond.methodLink R_NC 186 y_NC_endAt ∈ lw_G := List.mem_filter.mpr ⟨List.mem_of_getElem? (i := 485) (by decide +kernel), rfl⟩
theorem m_i_NC_endAt : Cond.instanceMethod y_NC_endAt ∈ lw_G := List.mem_filter.mpr ⟨List.mem_of_getElem? (i := 487) (by decide +kernel), rfl⟩
theorem m_code_NC_endAt : Cond.code y_NC_endAt b_NC_endAt 4 (some .int) ∈ lw_G := List.mem_filter.mpr ⟨List.mem_of_getElem? (i := 488) (by decide +kernel), rfl⟩
theorem m_m_NC_135 : Cond.methodLink R_NC 135 y_NC_replyFault ∈ lw_G := List.mem_filter.mpr ⟨List.mem_of_getElem? (i := 493) (by decide +kernel), rfl⟩
theorem m_i_NC_replyFault : Cond.instanceMethod y_NC_replyFault ∈ lw_G := List.mem_filter.mpr ⟨List.mem_of_getElem? (i := 495) (by decide +kernel), rfl⟩
theorem m_code_NC_replyFault : Cond.code y_NC_replyFault b_NC_replyFault 2 (some .int) ∈ lw_G := List.mem_filter.mpr ⟨List.mem_of_getElem? (i := 496) (by decide +kernel), rfl⟩
theorem m_m_NC_238 : Cond.methodLink R_NC 238 y_NC_isWord ∈ lw_G := List.mem_filter.mpr ⟨List.mem_of_getElem? (i := 497) (by decide +kernel), rfl⟩
theorem m_m_NC_138 : Cond.methodLink R_NC 138 y_NC_leftByRow ∈ lw_G := List.mem_filter.mpr ⟨List.mem_of_getElem? (i := 498) (by decide +kernel), rfl⟩
theorem m_i_NC_leftByRow : Cond.instanceMethod y_NC_leftByRow ∈ lw_G := List.mem_filter.mpr ⟨List.mem_of_getElem? (i := 500) (by decide +kernel), rfl⟩
theorem m_code_NC_leftByRow : Cond.code y_NC_leftByRow b_NC_leftByRow 4 (some .int) ∈ lw_G := List.mem_filter.mpr ⟨List.mem_of_getElem? (i := 501) (by decide +kernel), rfl⟩
theorem m_m_NC_159 : Cond.methodLink R_NC 159 y_NC_groupAt ∈ lw_G := List.mem_filter.mpr ⟨List.mem_of_getElem? (i := 502) (by decide +kernel), rfl⟩
theorem m_i_NC_groupAt : Cond.instanceMethod y_NC_groupAt ∈ lw_G := List.mem_filter.mpr ⟨List.mem_of_getElem? (i := 504) (by decide +kernel), rfl⟩
theorem m_code_NC_groupAt : Cond.code y_NC_groupAt b_NC_groupAt 5 (some .int) ∈ lw_G := List.mem_filter.mpr ⟨List.mem_of_getElem? (i := 505) (by decide +kernel), rfl⟩
theorem m_m_NC_162 : Cond.methodLink R_NC 162 y_NC_memberAt ∈ lw_G := List.mem_filter.mpr ⟨List.mem_of_getElem? (i := 506) (by decide +kernel), rfl⟩
theorem m_t_NC_memberAt : Cond.static y_NC_memberAt ∈ lw_G := List.mem_filter.mpr ⟨List.mem_of_getElem? (i := 507) (by decide +kernel), rfl⟩
theorem m_code_NC_memberAt : Cond.code y_NC_memberAt b_NC_memberAt 4 (some .int) ∈ lw_G := List.mem_filter.mpr ⟨List.mem_of_getElem? (i := 508) (by decide +kernel), rfl⟩
theorem m_m_NC_241 : Cond.methodLink R_NC 241 y_Things_hasWords ∈ lw_G := List.mem_filter.mpr ⟨List.mem_of_getElem? (i := 509) (by decide +kernel), rfl⟩
theorem m_i_Things_hasWords : Cond.instanceMethod y_Things_hasWords ∈ lw_G := List.mem_filter.mpr ⟨List.mem_of_getElem? (i := 510) (by decide +kernel), rfl⟩
theorem m_s_Things_hasWords : Cond.selects R_Things y_Things_hasWords y_Things_hasWords ∈ lw_G := List.mem_filter.mpr ⟨List.mem_of_getElem? (i := 511) (by decide +kernel), rfl⟩
theorem m_code_Things_hasWords : Cond.code y_Things_hasWords b_Things_hasWords 3 (some .boolean) ∈ lw_G := List.mem_filter.mpr ⟨List.mem_of_getElem? (i := 512) (by decide +kernel), rfl⟩
theorem m_m_NC_148 : Cond.methodLink R_NC 148 y_Picks_at ∈ lw_G := List.mem_filter.mpr ⟨List.mem_of_getElem? (i := 517) (by decide +kernel), rfl⟩
theorem m_i_Picks_at : Cond.instanceMethod y_Picks_at ∈ lw_G := List.mem_filter.mpr ⟨List.mem_of_getElem? (i := 518) (by decide +kernel), rfl⟩
theorem m_s_Picks_at : Cond.selects R_Picks y_Picks_at y_Picks_at ∈ lw_G := List.mem_filter.mpr ⟨List.mem_of_getElem? (i := 519) (by decide +kernel), rfl⟩
theorem m_code_Picks_at : Cond.code y_Picks_at b_Picks_at 2 (some .int) ∈ lw_G := List.mem_filter.mpr ⟨List.mem_of_getElem? (i := 520) (by decide +kernel), rfl⟩
def nestW : List Cond := [Cond.fieldLinkNest R_NC 165 "NounChoice$Things" "number" "I" "NounChoice", Cond.methodLinkNest R_NC 29 y_Phrase_init "NounChoice", Cond.fieldLinkNest R_NC 174 "NounChoice$Phrase" "parts" "I" "NounChoice", Cond.methodLinkNest R_NC 42 y_Picks_init "NounChoice", Cond.fieldLinkNest R_NC 145 "NounChoice$Picks" "size" "I" "NounChoice", Cond.fieldLinkNest R_NC 235 "NounChoice$Picks" "set" "I" "NounChoice", Cond.methodLinkNest R_Things 47 y_NC_isWord "NounChoice", Cond.methodLinkNest R_Phrase 86 y_NC_isNumber "NounChoice", Cond.methodLinkNest R_Phrase 89 y_NC_isWord "NounChoice", Cond.methodLinkNest R_Phrase 95 y_NC_isArticle "NounChoice", Cond.methodLinkNest R_Picks 22 y_NC_holds "NounChoice"]
theorem m_f_NC_165 : Cond.fieldLinkNest R_NC 165 "NounChoice$Things" "number" "I" "NounChoice" ∈ nestW := List.mem_of_getElem? (i := 0) rfl
theorem m_n_NC_29 : Cond.methodLinkNest R_NC 29 y_Phrase_init "NounChoice" ∈ nestW := List.mem_of_getElem? (i := 1) rfl
theorem m_f_NC_174 : Cond.fieldLinkNest R_NC 174 "NounChoice$Phrase" "parts" "I" "NounChoice" ∈ nestW := List.mem_of_getElem? (i := 2) rfl
theorem m_n_NC_42 : Cond.methodLinkNest R_NC 42 y_Picks_init "NounChoice" ∈ nestW := List.mem_of_getElem? (i := 3) rfl
theorem m_f_NC_145 : Cond.fieldLinkNest R_NC 145 "NounChoice$Picks" "size" "I" "NounChoice" ∈ nestW := List.mem_of_getElem? (i := 4) rfl
theorem m_f_NC_235 : Cond.fieldLinkNest R_NC 235 "NounChoice$Picks" "set" "I" "NounChoice" ∈ nestW := List.mem_of_getElem? (i := 5) rfl
theorem m_n_Things_47 : Cond.methodLinkNest R_Things 47 y_NC_isWord "NounChoice" ∈ nestW := List.mem_of_getElem? (i := 6) rfl
theorem m_n_Phrase_86 : Cond.methodLinkNest R_Phrase 86 y_NC_isNumber "NounChoice" ∈ nestW := List.mem_of_getElem? (i := 7) rfl
theorem m_n_Phrase_89 : Cond.methodLinkNest R_Phrase 89 y_NC_isWord "NounChoice" ∈ nestW := List.mem_of_getElem? (i := 8) rfl
theorem m_n_Phrase_95 : Cond.methodLinkNest R_Phrase 95 y_NC_isArticle "NounChoice" ∈ nestW := List.mem_of_getElem? (i := 9) rfl
theorem m_n_Picks_22 : Cond.methodLinkNest R_Picks 22 y_NC_holds "NounChoice" ∈ nestW := List.mem_of_getElem? (i := 10) rfl
theorem nestW_in : ∀ w ∈ nestW, w ∈ lw_tbl := by decide +kernel

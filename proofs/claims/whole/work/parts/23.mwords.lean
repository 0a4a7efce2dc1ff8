theorem m_s_M_noThing : Cond.selects R_M y_M_noThing y_M_noThing ∈ lw_G := List.mem_filter.mpr ⟨List.mem_of_getElem? (i := 26) (by decide +kernel), rfl⟩
theorem m_s_M_scoreOf : Cond.selects R_M y_M_scoreOf y_M_scoreOf ∈ lw_G := List.mem_filter.mpr ⟨List.mem_of_getElem? (i := 27) (by decide +kernel), rfl⟩
theorem m_s_M_isAlike : Cond.selects R_M y_M_isAlike y_M_isAlike ∈ lw_G := List.mem_filter.mpr ⟨List.mem_of_getElem? (i := 28) (by decide +kernel), rfl⟩
theorem m_s_M_begin : Cond.selects R_M y_M_begin y_M_begin ∈ lw_G := List.mem_filter.mpr ⟨List.mem_of_getElem? (i := 29) (by decide +kernel), rfl⟩
theorem m_s_M_readDescription : Cond.selects R_M y_M_readDescription y_M_readDescription ∈ lw_G := List.mem_filter.mpr ⟨List.mem_of_getElem? (i := 30) (by decide +kernel), rfl⟩
theorem m_s_M_here : Cond.selects R_M y_M_here y_M_here ∈ lw_G := List.mem_filter.mpr ⟨List.mem_of_getElem? (i := 31) (by decide +kernel), rfl⟩
theorem m_s_M_isWord : Cond.selects R_M y_M_isWord y_M_isWord ∈ lw_G := List.mem_filter.mpr ⟨List.mem_of_getElem? (i := 32) (by decide +kernel), rfl⟩
theorem m_s_M_fit : Cond.selects R_M y_M_fit y_M_fit ∈ lw_G := List.mem_filter.mpr ⟨List.mem_of_getElem? (i := 33) (by decide +kernel), rfl⟩
theorem m_s_M_hasWord : Cond.selects R_M y_M_hasWord y_M_hasWord ∈ lw_G := List.mem_filter.mpr ⟨List.mem_of_getElem? (i := 34) (by decide +kernel), rfl⟩
theorem m_s_M_isPhrase : Cond.selects R_M y_M_isPhrase y_M_isPhrase ∈ lw_G := List.mem_filter.mpr ⟨List.mem_of_getElem? (i := 35) (by decide +kernel), rfl⟩
theorem m_s_M_part : Cond.selects R_M y_M_part y_M_part ∈ lw_G := List.mem_filter.mpr ⟨List.mem_of_getElem? (i := 36) (by decide +kernel), rfl⟩
theorem m_s_M_everything : Cond.selects R_M y_M_everything y_M_everything ∈ lw_G := List.mem_filter.mpr ⟨List.mem_of_getElem? (i := 37) (by decide +kernel), rfl⟩
theorem m_s_M_fitting : Cond.selects R_M y_M_fitting y_M_fitting ∈ lw_G := List.mem_filter.mpr ⟨List.mem_of_getElem? (i := 38) (by decide +kernel), rfl⟩
theorem m_s_M_there : Cond.selects R_M y_M_there y_M_there ∈ lw_G := List.mem_filter.mpr ⟨List.mem_of_getElem? (i := 39) (by decide +kernel), rfl⟩
theorem m_s_M_likeliest : Cond.selects R_M y_M_likeliest y_M_likeliest ∈ lw_G := List.mem_filter.mpr ⟨List.mem_of_getElem? (i := 40) (by decide +kernel), rfl⟩
theorem m_s_M_areAlike : Cond.selects R_M y_M_areAlike y_M_areAlike ∈ lw_G := List.mem_filter.mpr ⟨List.mem_of_getElem? (i := 41) (by decide +kernel), rfl⟩
theorem m_s_M_tell : Cond.selects R_M y_M_tell y_M_tell ∈ lw_G := List.mem_filter.mpr ⟨List.mem_of_getElem? (i := 42) (by decide +kernel), rfl⟩
theorem m_s_M_go : Cond.selects R_M y_M_go y_M_go ∈ lw_G := List.mem_filter.mpr ⟨List.mem_of_getElem? (i := 43) (by decide +kernel), rfl⟩
theorem m_s_M_groupOf : Cond.selects R_M y_M_groupOf y_M_groupOf ∈ lw_G := List.mem_filter.mpr ⟨List.mem_of_getElem? (i := 44) (by decide +kernel), rfl⟩
theorem m_ini_M : Cond.initialized R_M ∈ lw_G := List.mem_filter.mpr ⟨List.mem_of_getElem? (i := 51) (by decide +kernel), rfl⟩
theorem m_o_M_7 : Cond.methodLink R_M 7 objectInit ∈ lw_G := List.mem_filter.mpr ⟨List.mem_of_getElem? (i := 538) (by decide +kernel), rfl⟩
theorem m_f_M_1 : Cond.fieldLink R_M 1 "NounChoiceModel" "thrown" "I" ∈ lw_G := List.mem_filter.mpr ⟨List.mem_of_getElem? (i := 539) (by decide +kernel), rfl⟩
theorem m_f_M_69 : Cond.fieldLink R_M 69 "NounChoiceModel" "things" "I" ∈ lw_G := List.mem_filter.mpr ⟨List.mem_of_getElem? (i := 540) (by decide +kernel), rfl⟩
theorem m_f_M_13 : Cond.fieldLink R_M 13 "NounChoiceModel" "nouns" "[I" ∈ lw_G := List.mem_filter.mpr ⟨List.mem_of_getElem? (i := 541) (by decide +kernel), rfl⟩
theorem m_f_M_17 : Cond.fieldLink R_M 17 "NounChoiceModel" "adjectives" "[I" ∈ lw_G := List.mem_filter.mpr ⟨List.mem_of_getElem? (i := 542) (by decide +kernel), rfl⟩
theorem m_f_M_20 : Cond.fieldLink R_M 20 "NounChoiceModel" "kind" "[I" ∈ lw_G := List.mem_filter.mpr ⟨List.mem_of_getElem? (i := 543) (by decide +kernel), rfl⟩
theorem m_f_M_23 : Cond.fieldLink R_M 23 "NounChoiceModel" "place" "[I" ∈ lw_G := List.mem_filter.mpr ⟨List.mem_of_getElem? (i := 544) (by decide +kernel), rfl⟩
theorem m_f_M_26 : Cond.fieldLink R_M 26 "NounChoiceModel" "marks" "[I" ∈ lw_G := List.mem_filter.mpr ⟨List.mem_of_getElem? (i := 545) (by decide +kernel), rfl⟩
theorem m_f_M_29 : Cond.fieldLink R_M 29 "NounChoiceModel" "plural" "[I" ∈ lw_G := List.mem_filter.mpr ⟨List.mem_of_getElem? (i := 546) (by decide +kernel), rfl⟩
theorem m_f_M_32 : Cond.fieldLink R_M 32 "NounChoiceModel" "weight" "[I" ∈ lw_G := List.mem_filter.mpr ⟨List.mem_of_getElem? (i := 547) (by decide +kernel), rfl⟩
theorem m_f_M_35 : Cond.fieldLink R_M 35 "NounChoiceModel" "limit" "I" ∈ lw_G := List.mem_filter.mpr ⟨List.mem_of_getElem? (i := 548) (by decide +kernel), rfl⟩
theorem m_f_M_38 : Cond.fieldLink R_M 38 "NounChoiceModel" "row" "[I" ∈ lw_G := List.mem_filter.mpr ⟨List.mem_of_getElem? (i := 549) (by decide +kernel), rfl⟩
theorem m_f_M_88 : Cond.fieldLink R_M 88 "NounChoiceModel" "size" "I" ∈ lw_G := List.mem_filter.mpr ⟨List.mem_of_getElem? (i := 550) (by decide +kernel), rfl⟩
theorem m_f_M_91 : Cond.fieldLink R_M 91 "NounChoiceModel" "read" "[I" ∈ lw_G := List.mem_filter.mpr ⟨List.mem_of_getElem? (i := 551) (by decide +kernel), rfl⟩
theorem m_f_M_94 : Cond.fieldLink R_M 94 "NounChoiceModel" "end" "I" ∈ lw_G := List.mem_filter.mpr ⟨List.mem_of_getElem? (i := 552) (by decide +kernel), rfl⟩
theorem m_f_M_97 : Cond.fieldLink R_M 97 "NounChoiceModel" "at" "I" ∈ lw_G := List.mem_filter.mpr ⟨List.mem_of_getElem? (i := 553) (by decide +kernel), rfl⟩
theorem m_f_M_100 : Cond.fieldLink R_M 100 "NounChoiceModel" "wrong" "Z" ∈ lw_G := List.mem_filter.mpr ⟨List.mem_of_getElem? (i := 554) (by decide +kernel), rfl⟩
theorem m_f_M_108 : Cond.fieldLink R_M 108 "NounChoiceModel" "flags" "I" ∈ lw_G := List.mem_filter.mpr ⟨List.mem_of_getElem? (i := 555) (by decide +kernel), rfl⟩
theorem m_f_M_41 : Cond.fieldLink R_M 41 "NounChoiceModel" "words" "[I" ∈ lw_G := List.mem_filter.mpr ⟨List.mem_of_getElem? (i := 556) (by decide +kernel), rfl⟩
theorem m_f_M_111 : Cond.fieldLink R_M 111 "NounChoiceModel" "wordCount" "I" ∈ lw_G := List.mem_filter.mpr ⟨List.mem_of_getElem? (i := 557) (by decide +kernel), rfl⟩
theorem m_f_M_137 : Cond.fieldLink R_M 137 "NounChoiceModel" "reason" "I" ∈ lw_G := List.mem_filter.mpr ⟨List.mem_of_getElem? (i := 558) (by decide +kernel), rfl⟩
theorem m_f_M_140 : Cond.fieldLink R_M 140 "NounChoiceModel" "asked" "I" ∈ lw_G := List.mem_filter.mpr ⟨List.mem_of_getElem? (i := 559) (by decide +kernel), rfl⟩
theorem m_f_M_160 : Cond.fieldLink R_M 160 "NounChoiceModel" "of" "I" ∈ lw_G := List.mem_filter.mpr ⟨List.mem_of_getElem? (i := 560) (by decide +kernel), rfl⟩
theorem m_f_M_143 : Cond.fieldLink R_M 143 "NounChoiceModel" "gives" "I" ∈ lw_G := List.mem_filter.mpr ⟨List.mem_of_getElem? (i := 561) (by decide +kernel), rfl⟩
theorem m_f_M_176 : Cond.fieldLink R_M 176 "NounChoiceModel" "readParts" "I" ∈ lw_G := List.mem_filter.mpr ⟨List.mem_of_getElem? (i := 562) (by decide +kernel), rfl⟩
theorem m_f_M_44 : Cond.fieldLink R_M 44 "NounChoiceModel" "phrase" "[I" ∈ lw_G := List.mem_filter.mpr ⟨List.mem_of_getElem? (i := 563) (by decide +kernel), rfl⟩
theorem m_f_M_182 : Cond.fieldLink R_M 182 "NounChoiceModel" "phraseSize" "I" ∈ lw_G := List.mem_filter.mpr ⟨List.mem_of_getElem? (i := 564) (by decide +kernel), rfl⟩
theorem m_f_M_185 : Cond.fieldLink R_M 185 "NounChoiceModel" "phraseParts" "I" ∈ lw_G := List.mem_filter.mpr ⟨List.mem_of_getElem? (i := 565) (by decide +kernel), rfl⟩
theorem m_f_M_47 : Cond.fieldLink R_M 47 "NounChoiceModel" "left" "[I" ∈ lw_G := List.mem_filter.mpr ⟨List.mem_of_getElem? (i := 566) (by decide +kernel), rfl⟩
theorem m_f_M_50 : Cond.fieldLink R_M 50 "NounChoiceModel" "isLeft" "[Z" ∈ lw_G := List.mem_filter.mpr ⟨List.mem_of_getElem? (i := 567) (by decide +kernel), rfl⟩
theorem m_f_M_179 : Cond.fieldLink R_M 179 "NounChoiceModel" "askedSet" "I" ∈ lw_G := List.mem_filter.mpr ⟨List.mem_of_getElem? (i := 568) (by decide +kernel), rfl⟩
theorem m_f_M_192 : Cond.fieldLink R_M 192 "NounChoiceModel" "askedPart" "I" ∈ lw_G := List.mem_filter.mpr ⟨List.mem_of_getElem? (i := 569) (by decide +kernel), rfl⟩
theorem m_f_M_124 : Cond.fieldLink R_M 124 "NounChoiceModel" "latest" "I" ∈ lw_G := List.mem_filter.mpr ⟨List.mem_of_getElem? (i := 570) (by decide +kernel), rfl⟩
theorem m_f_M_54 : Cond.fieldLink R_M 54 "NounChoiceModel" "chosen" "[I" ∈ lw_G := List.mem_filter.mpr ⟨List.mem_of_getElem? (i := 571) (by decide +kernel), rfl⟩
theorem m_f_M_195 : Cond.fieldLink R_M 195 "NounChoiceModel" "chosenCount" "I" ∈ lw_G := List.mem_filter.mpr ⟨List.mem_of_getElem? (i := 572) (by decide +kernel), rfl⟩
theorem m_f_M_57 : Cond.fieldLink R_M 57 "NounChoiceModel" "come" "[I" ∈ lw_G := List.mem_filter.mpr ⟨List.mem_of_getElem? (i := 573) (by decide +kernel), rfl⟩
theorem m_f_M_60 : Cond.fieldLink R_M 60 "NounChoiceModel" "toldPart" "I" ∈ lw_G := List.mem_filter.mpr ⟨List.mem_of_getElem? (i := 574) (by decide +kernel), rfl⟩
theorem m_f_M_63 : Cond.fieldLink R_M 63 "NounChoiceModel" "toldFault" "I" ∈ lw_G := List.mem_filter.mpr ⟨List.mem_of_getElem? (i := 575) (by decide +kernel), rfl⟩
theorem m_f_M_66 : Cond.fieldLink R_M 66 "NounChoiceModel" "toldMany" "I" ∈ lw_G := List.mem_filter.mpr ⟨List.mem_of_getElem? (i := 576) (by decide +kernel), rfl⟩
theorem m_f_M_205 : Cond.fieldLink R_M 205 "NounChoiceModel" "groups" "I" ∈ lw_G := List.mem_filter.mpr ⟨List.mem_of_getElem? (i := 577) (by decide +kernel), rfl⟩
theorem m_arr_boolean : Cond.arrayClass .boolean ∈ lw_G := List.mem_filter.mpr ⟨List.mem_of_getElem? (i := 657) (by decide +kernel), rfl⟩
theorem m_m_M_76 : Cond.methodLink R_M 76 y_M_noThing ∈ lw_G := List.mem_filter.mpr ⟨List.mem_of_getElem? (i := 666) (by decide +kernel), rfl⟩
theorem m_i_M_noThing : Cond.instanceMethod y_M_noThing ∈ lw_G := List.mem_filter.mpr ⟨List.mem_of_getElem? (i := 668) (by decide +kernel), rfl⟩
theorem m_code_M_noThing : Cond.code y_M_noThing b_M_noThing 2 (some .boolean) ∈ lw_G := List.mem_filter.mpr ⟨List.mem_of_getElem? (i := 669) (by decide +kernel), rfl⟩
theorem m_m_M_72 : Cond.methodLink R_M 72 y_M_in ∈ lw_G := List.mem_filter.mpr ⟨List.mem_of_getElem? (i := 670) (by decide +kernel), rfl⟩
theorem m_t_M_in : Cond.static y_M_in ∈ lw_G := List.mem_filter.mpr ⟨List.mem_of_getElem? (i := 671) (by decide +kernel), rfl⟩
theorem m_code_M_in : Cond.code y_M_in b_M_in 3 (some .boolean) ∈ lw_G := List.mem_filter.mpr ⟨List.mem_of_getElem? (i := 672) (by decide +kernel), rfl⟩
theorem m_m_M_80 : Cond.methodLink R_M 80 y_M_scoreOf ∈ lw_G := List.mem_filter.mpr ⟨List.mem_of_getElem? (i := 701) (by decide +kernel), rfl⟩
theorem m_i_M_scoreOf : Cond.instanceMethod y_M_scoreOf ∈ lw_G := List.mem_filter.mpr ⟨List.mem_of_getElem? (i := 703) (by decide +kernel), rfl⟩
theorem m_code_M_scoreOf : Cond.code y_M_scoreOf b_M_scoreOf 4 (some .int) ∈ lw_G := List.mem_filter.mpr ⟨List.mem_of_getElem? (i := 704) (by decide +kernel), rfl⟩
theorem m_m_M_84 : Cond.methodLink R_M 84 y_M_isAlike ∈ lw_G := List.mem_filter.mpr ⟨List.mem_of_getElem? (i := 709) (by decide +kernel), rfl⟩
theorem m_i_M_isAlike : Cond.instanceMethod y_M_isAlike ∈ lw_G := List.mem_filter.mpr ⟨List.mem_of_getElem? (i := 711) (by decide +kernel), rfl⟩
theorem m_code_M_isAlike : Cond.code y_M_isAlike b_M_isAlike 5 (some .boolean) ∈ lw_G := List.mem_filter.mpr ⟨List.mem_of_getElem? (i := 712) (by decide +kernel), rfl⟩
theorem m_m_M_130 : Cond.methodLink R_M 130 y_M_begin ∈ lw_G := List.mem_filter.mpr ⟨List.mem_of_getElem? (i := 725) (by decide +kernel), rfl⟩
theorem m_i_M_begin : Cond.instanceMethod y_M_begin ∈ lw_G := List.mem_filter.mpr ⟨List.mem_of_getElem? (i := 727) (by decide +kernel), rfl⟩
theorem m_code_M_begin : Cond.code y_M_begin b_M_begin 3 none ∈ lw_G := List.mem_filter.mpr ⟨List.mem_of_getElem? (i := 728) (by decide +kernel), rfl⟩
theorem m_m_M_134 : Cond.methodLink R_M 134 y_M_readDescription ∈ lw_G := List.mem_filter.mpr ⟨List.mem_of_getElem? (i := 729) (by decide +kernel), rfl⟩
theorem m_i_M_readDescription : Cond.instanceMethod y_M_readDescription ∈ lw_G := List.mem_filter.mpr ⟨List.mem_of_getElem? (i := 731) (by decide +kernel), rfl⟩
theorem m_code_M_readDescription : Cond.code y_M_readDescription b_M_readDescription 1 none ∈ lw_G := List.mem_filter.mpr ⟨List.mem_of_getElem? (i := 732) (by decide +kernel), rfl⟩
theorem m_m_M_104 : Cond.methodLink R_M 104 y_M_here ∈ lw_G := List.mem_filter.mpr ⟨List.mem_of_getElem? (i := 733) (by decide +kernel), rfl⟩
theorem m_i_M_here : Cond.instanceMethod y_M_here ∈ lw_G := List.mem_filter.mpr ⟨List.mem_of_getElem? (i := 735) (by decide +kernel), rfl⟩
theorem m_code_M_here : Cond.code y_M_here b_M_here 1 (some .int) ∈ lw_G := List.mem_filter.mpr ⟨List.mem_of_getElem? (i := 736) (by decide +kernel), rfl⟩
theorem m_m_M_114 : Cond.methodLink R_M 114 y_M_has ∈ lw_G := List.mem_filter.mpr ⟨List.mem_of_getElem? (i := 737) (by decide +kernel), rfl⟩
theorem m_t_M_has : Cond.static y_M_has ∈ lw_G := List.mem_filter.mpr ⟨List.mem_of_getElem? (i := 738) (by decide +kernel), rfl⟩
theorem m_code_M_has : Cond.code y_M_has b_M_has 2 (some .boolean) ∈ lw_G := List.mem_filter.mpr ⟨List.mem_of_getElem? (i := 739) (by decide +kernel), rfl⟩
theorem m_m_M_117 : Cond.methodLink R_M 117 y_M_isWord ∈ lw_G := List.mem_filter.mpr ⟨List.mem_of_getElem? (i := 740) (by decide +kernel), rfl⟩
theorem m_i_M_isWord : Cond.instanceMethod y_M_isWord ∈ lw_G := List.mem_filter.mpr ⟨List.mem_of_getElem? (i := 742) (by decide +kernel), rfl⟩
theorem m_code_M_isWord : Cond.code y_M_isWord b_M_isWord 1 (some .boolean) ∈ lw_G := List.mem_filter.mpr ⟨List.mem_of_getElem? (i := 743) (by decide +kernel), rfl⟩
theorem m_m_M_127 : Cond.methodLink R_M 127 y_M_fit ∈ lw_G := List.mem_filter.mpr ⟨List.mem_of_getElem? (i := 744) (by decide +kernel), rfl⟩
theorem m_i_M_fit : Cond.instanceMethod y_M_fit ∈ lw_G := List.mem_filter.mpr ⟨List.mem_of_getElem? (i := 746) (by decide +kernel), rfl⟩
theorem m_code_M_fit : Cond.code y_M_fit b_M_fit 6 (some .int) ∈ lw_G := List.mem_filter.mpr ⟨List.mem_of_getElem? (i := 747) (by decide +kernel), rfl⟩
theorem m_m_M_121 : Cond.methodLink R_M 121 y_M_hasWord ∈ lw_G := List.mem_filter.mpr ⟨List.mem_of_getElem? (i := 748) (by decide +kernel), rfl⟩
theorem m_i_M_hasWord : Cond.instanceMethod y_M_hasWord ∈ lw_G := List.mem_filter.mpr ⟨List.mem_of_getElem? (i := 750) (by decide +kernel), rfl⟩
theorem m_code_M_hasWord : Cond.code y_M_hasWord b_M_hasWord 3 (some .boolean) ∈ lw_G := List.mem_filter.mpr ⟨List.mem_of_getElem? (i := 751) (by decide +kernel), rfl⟩
theorem m_m_M_198 : Cond.methodLink R_M 198 y_M_isPhrase ∈ lw_G := List.mem_filter.mpr ⟨List.mem_of_getElem? (i := 756) (by decide +kernel), rfl⟩
theorem m_i_M_isPhrase : Cond.instanceMethod y_M_isPhrase ∈ lw_G := List.mem_filter.mpr ⟨List.mem_of_getElem? (i := 758) (by decide +kernel), rfl⟩
theorem m_code_M_isPhrase : Cond.code y_M_isPhrase b_M_isPhrase 5 (some .boolean) ∈ lw_G := List.mem_filter.mpr ⟨List.mem_of_getElem? (i := 759) (by decide +kernel), rfl⟩
theorem m_m_M_172 : Cond.methodLink R_M 172 y_M_part ∈ lw_G := List.mem_filter.mpr ⟨List.mem_of_getElem? (i := 760) (by decide +kernel), rfl⟩
theorem m_i_M_part : Cond.instanceMethod y_M_part ∈ lw_G := List.mem_filter.mpr ⟨List.mem_of_getElem? (i := 762) (by decide +kernel), rfl⟩
theorem m_code_M_part : Cond.code y_M_part b_M_part 12 none ∈ lw_G := List.mem_filter.mpr ⟨List.mem_of_getElem? (i := 763) (by decide +kernel), rfl⟩
theorem m_m_M_146 : Cond.methodLink R_M 146 y_M_everything ∈ lw_G := List.mem_filter.mpr ⟨List.mem_of_getElem? (i := 764) (by decide +kernel), rfl⟩
theorem m_i_M_everything : Cond.instanceMethod y_M_everything ∈ lw_G := List.mem_filter.mpr ⟨List.mem_of_getElem? (i := 766) (by decide +kernel), rfl⟩
theorem m_code_M_everything : Cond.code y_M_everything b_M_everything 1 (some .int) ∈ lw_G := List.mem_filter.mpr ⟨List.mem_of_getElem? (i := 767) (by decide +kernel), rfl⟩
theorem m_m_M_149 : Cond.methodLink R_M 149 y_M_fitting ∈ lw_G := List.mem_filter.mpr ⟨List.mem_of_getElem? (i := 768) (by decide +kernel), rfl⟩
theorem m_i_M_fitting : Cond.instanceMethod y_M_fitting ∈ lw_G := List.mem_filter.mpr ⟨List.mem_of_getElem? (i := 770) (by decide +kernel), rfl⟩
theorem m_code_M_fitting : Cond.code y_M_fitting b_M_fitting 4 (some .int) ∈ lw_G := List.mem_filter.mpr ⟨List.mem_of_getElem? (i := 771) (by decide +kernel), rfl⟩
theorem m_m_M_152 : Cond.methodLink R_M 152 y_M_there ∈ lw_G := List.mem_filter.mpr ⟨List.mem_of_getElem? (i := 772) (by decide +kernel), rfl⟩
theorem m_i_M_there : Cond.instanceMethod y_M_there ∈ lw_G := List.mem_filter.mpr ⟨List.mem_of_getElem? (i := 774) (by decide +kernel), rfl⟩
theorem m_code_M_there : Cond.code y_M_there b_M_there 3 (some .int) ∈ lw_G := List.mem_filter.mpr ⟨List.mem_of_getElem? (i := 775) (by decide +kernel), rfl⟩
theorem m_m_M_155 : Cond.methodLink R_M 155 y_Integer_bitCount ∈ lw_G := List.mem_filter.mpr ⟨List.mem_of_getElem? (i := 776) (by decide +kernel), rfl⟩
theorem m_m_M_163 : Cond.methodLink R_M 163 y_M_likeliest ∈ lw_G := List.mem_filter.mpr ⟨List.mem_of_getElem? (i := 777) (by decide +kernel), rfl⟩
theorem m_i_M_likeliest : Cond.instanceMethod y_M_likeliest ∈ lw_G := List.mem_filter.mpr ⟨List.mem_of_getElem? (i := 779) (by decide +kernel), rfl⟩
theorem m_code_M_likeliest : Cond.code y_M_likeliest b_M_likeliest 5 (some .int) ∈ lw_G := List.mem_filter.mpr ⟨List.mem_of_getElem? (i := 780) (by decide +kernel), rfl⟩
theorem m_m_M_166 : Cond.methodLink R_M 166 y_M_least ∈ lw_G := List.mem_filter.mpr ⟨List.mem_of_getElem? (i := 781) (by decide +kernel), rfl⟩
theorem m_t_M_least : Cond.static y_M_least ∈ lw_G := List.mem_filter.mpr ⟨List.mem_of_getElem? (i := 782) (by decide +kernel), rfl⟩
theorem m_code_M_least : Cond.code y_M_least b_M_least 1 (some .int) ∈ lw_G := List.mem_filter.mpr ⟨List.mem_of_getElem? (i := 783) (by decide +kernel), rfl⟩
theorem m_m_M_169 : Cond.methodLink R_M 169 y_M_areAlike ∈ lw_G := List.mem_filter.mpr ⟨List.mem_of_getElem? (i := 784) (by decide +kernel), rfl⟩
theorem m_i_M_areAlike : Cond.instanceMethod y_M_areAlike ∈ lw_G := List.mem_filter.mpr ⟨List.mem_of_getElem? (i := 786) (by decide +kernel), rfl⟩
theorem m_code_M_areAlike : Cond.code y_M_areAlike b_M_areAlike 5 (some .boolean) ∈ lw_G := List.mem_filter.mpr ⟨List.mem_of_getElem? (i := 787) (by decide +kernel), rfl⟩
theorem m_m_M_188 : Cond.methodLink R_M 188 y_M_tell ∈ lw_G := List.mem_filter.mpr ⟨List.mem_of_getElem? (i := 788) (by decide +kernel), rfl⟩
theorem m_i_M_tell : Cond.instanceMethod y_M_tell ∈ lw_G := List.mem_filter.mpr ⟨List.mem_of_getElem? (i := 790) (by decide +kernel), rfl⟩
theorem m_code_M_tell : Cond.code y_M_tell b_M_tell 4 none ∈ lw_G := List.mem_filter.mpr ⟨List.mem_of_getElem? (i := 791) (by decide +kernel), rfl⟩
theorem m_m_M_202 : Cond.methodLink R_M 202 y_M_go ∈ lw_G := List.mem_filter.mpr ⟨List.mem_of_getElem? (i := 792) (by decide +kernel), rfl⟩
theorem m_i_M_go : Cond.instanceMethod y_M_go ∈ lw_G := List.mem_filter.mpr ⟨List.mem_of_getElem? (i := 794) (by decide +kernel), rfl⟩
theorem m_code_M_go : Cond.code y_M_go b_M_go 5 (some .int) ∈ lw_G := List.mem_filter.mpr ⟨List.mem_of_getElem? (i := 795) (by decide +kernel), rfl⟩
theorem m_m_M_208 : Cond.methodLink R_M 208 y_M_groupOf ∈ lw_G := List.mem_filter.mpr ⟨List.mem_of_getElem? (i := 800) (by decide +kernel), rfl⟩
theorem m_i_M_groupOf : Cond.instanceMethod y_M_groupOf ∈ lw_G := List.mem_filter.mpr ⟨List.mem_of_getElem? (i := 802) (by decide +kernel), rfl⟩
theorem m_code_M_groupOf : Cond.code y_M_groupOf b_M_groupOf 8 (some .int) ∈ lw_G := List.mem_filter.mpr ⟨List.mem_of_getElem? (i := 803) (by decide +kernel), rfl⟩

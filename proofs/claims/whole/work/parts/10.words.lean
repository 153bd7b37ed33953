/-! The words of the tables that the rows need, by their places. -/
theorem zin_1 {i : Nat} {w : Cond} (h : tables_1_1[i]? = some w) (g : goodWord w = true) : w ∈ zWS := zWS_of (by unfold lw_tbl tables_1; exact List.mem_append_right _ (List.mem_append_left _ (List.mem_of_getElem? h))) g
theorem zin_2 {i : Nat} {w : Cond} (h : tables_1_2[i]? = some w) (g : goodWord w = true) : w ∈ zWS := zWS_of (by unfold lw_tbl tables_1; exact List.mem_append_right _ (List.mem_append_right _ (List.mem_append_left _ (List.mem_of_getElem? h)))) g
theorem zin_3 {i : Nat} {w : Cond} (h : tables_1_3[i]? = some w) (g : goodWord w = true) : w ∈ zWS := zWS_of (by unfold lw_tbl tables_1; exact List.mem_append_right _ (List.mem_append_right _ (List.mem_append_right _ (List.mem_append_left _ (List.mem_of_getElem? h))))) g
theorem zin_4 {i : Nat} {w : Cond} (h : tables_1_4[i]? = some w) (g : goodWord w = true) : w ∈ zWS := zWS_of (by unfold lw_tbl tables_1; exact List.mem_append_right _ (List.mem_append_right _ (List.mem_append_right _ (List.mem_append_right _ (List.mem_append_left _ (List.mem_of_getElem? h)))))) g
theorem zin_5 {i : Nat} {w : Cond} (h : tables_1_5[i]? = some w) (g : goodWord w = true) : w ∈ zWS := zWS_of (by unfold lw_tbl tables_1; exact List.mem_append_right _ (List.mem_append_right _ (List.mem_append_right _ (List.mem_append_right _ (List.mem_append_right _ (List.mem_append_left _ (List.mem_of_getElem? h))))))) g
theorem zin_6 {i : Nat} {w : Cond} (h : tables_1_6[i]? = some w) (g : goodWord w = true) : w ∈ zWS := zWS_of (by unfold lw_tbl tables_1; exact List.mem_append_right _ (List.mem_append_right _ (List.mem_append_right _ (List.mem_append_right _ (List.mem_append_right _ (List.mem_append_right _ ((List.mem_of_getElem? h)))))))) g
theorem zin_s {i : Nat} {w : Cond} (h : (k2_sels lw_privs)[i]? = some w) (g : goodWord w = true) : w ∈ zWS := zWS_of (by unfold lw_tbl; exact List.mem_append_left _ (List.mem_of_getElem? h)) g
theorem zw0 : Cond.methodLink RX0 3 objectInit ∈ zWS := zin_2 (i := 22) rfl rfl
theorem zw1 : Cond.instanceMethod objectInit ∈ zWS := zin_1 (i := 22) rfl rfl
theorem zw2 : Cond.code objectInit ⟨#[0xb1]⟩ 1 none ∈ zWS := zin_1 (i := 23) rfl rfl
theorem zw3 : Cond.arrayClass .long ∈ zWS := zin_1 (i := 55) rfl rfl
theorem zw4 : Cond.fieldLink RX0 9 RX0 "words" "[J" ∈ zWS := zin_2 (i := 23) rfl rfl
theorem zw5 : Cond.arrayClass .int ∈ zWS := zin_1 (i := 54) rfl rfl
theorem zw6 : Cond.fieldLink RX0 15 RX0 "levels" "[I" ∈ zWS := zin_2 (i := 24) rfl rfl
theorem zw7 : Cond.fieldLink RX0 19 RX0 "size" "I" ∈ zWS := zin_2 (i := 25) rfl rfl
theorem zw8 : Cond.methodLink RX0 25 yX0_add ∈ zWS := zin_3 (i := 96) rfl rfl
theorem zw9 : Cond.instanceMethod yX0_add ∈ zWS := zin_3 (i := 98) rfl rfl
theorem zw10 : Cond.selects RX0 yX0_add yX0_add ∈ zWS := zin_s (i := 18) rfl rfl
theorem zw11 : Cond.initialized RX0 ∈ zWS := zin_1 (i := 11) rfl rfl
theorem zw12 : Cond.code yX0_add cX0_add 4 none ∈ zWS := zin_3 (i := 99) rfl rfl
theorem zw13 : Cond.fieldLink RX0 29 RX8 "ruleCount" "I" ∈ zWS := zin_1 (i := 162) rfl rfl
theorem zw14 : Cond.methodLink RX0 34 yX8_ruleAt ∈ zWS := zin_3 (i := 104) rfl rfl
theorem zw15 : Cond.instanceMethod yX8_ruleAt ∈ zWS := zin_2 (i := 211) rfl rfl
theorem zw16 : Cond.selects RX8 yX8_ruleAt yX8_ruleAt ∈ zWS := zin_2 (i := 212) rfl rfl
theorem zw17 : Cond.initialized RX8 ∈ zWS := zin_1 (i := 6) rfl rfl
theorem zw18 : Cond.code yX8_ruleAt cX8_ruleAt 2 (some (.object RX6)) ∈ zWS := zin_2 (i := 213) rfl rfl
theorem zw19 : Cond.methodLink RX0 38 yX6_applyTo ∈ zWS := zin_3 (i := 105) rfl rfl
theorem zw20 : Cond.instanceMethod yX6_applyTo ∈ zWS := zin_3 (i := 106) rfl rfl
theorem zw21 : Cond.selects RX6 yX6_applyTo yX6_applyTo ∈ zWS := zin_3 (i := 107) rfl rfl
theorem zw22 : Cond.initialized RX6 ∈ zWS := zin_1 (i := 5) rfl rfl
theorem zw23 : Cond.code yX6_applyTo cX6_applyTo 10 (some .long) ∈ zWS := zin_3 (i := 108) rfl rfl
theorem zw24 : Cond.methodLink RX0 44 yX0_has ∈ zWS := zin_3 (i := 100) rfl rfl
theorem zw25 : Cond.instanceMethod yX0_has ∈ zWS := zin_3 (i := 101) rfl rfl
theorem zw26 : Cond.selects RX0 yX0_has yX0_has ∈ zWS := zin_3 (i := 102) rfl rfl
theorem zw27 : Cond.code yX0_has cX0_has 4 (some .boolean) ∈ zWS := zin_3 (i := 103) rfl rfl
theorem zw28 : Cond.methodLink RX1 3 objectInit ∈ zWS := zin_1 (i := 208) rfl rfl
theorem zw29 : Cond.fieldLink RX1 9 RX1 "before" "[I" ∈ zWS := zin_1 (i := 209) rfl rfl
theorem zw30 : Cond.fieldLink RX1 15 RX1 "after" "[I" ∈ zWS := zin_1 (i := 211) rfl rfl
theorem zw31 : Cond.fieldLink RX1 18 RX1 "came" "I" ∈ zWS := zin_1 (i := 213) rfl rfl
theorem zw32 : Cond.fieldLink RX1 22 RX1 "went" "I" ∈ zWS := zin_1 (i := 215) rfl rfl
theorem zw33 : Cond.fieldLink RX1 25 RX1 "first" "I" ∈ zWS := zin_1 (i := 217) rfl rfl
theorem zw34 : Cond.methodLink RX1 28 yX1_placeOf ∈ zWS := zin_3 (i := 204) rfl rfl
theorem zw35 : Cond.static yX1_placeOf ∈ zWS := zin_3 (i := 205) rfl rfl
theorem zw36 : Cond.initialized RX1 ∈ zWS := zin_1 (i := 8) rfl rfl
theorem zw37 : Cond.code yX1_placeOf cX1_placeOf 4 (some .int) ∈ zWS := zin_3 (i := 206) rfl rfl
theorem zw38 : Cond.methodLink RX1 32 yX1_isLinkOnlyHere ∈ zWS := zin_3 (i := 207) rfl rfl
theorem zw39 : Cond.static yX1_isLinkOnlyHere ∈ zWS := zin_3 (i := 208) rfl rfl
theorem zw40 : Cond.code yX1_isLinkOnlyHere cX1_isLinkOnlyHere 4 (some .boolean) ∈ zWS := zin_3 (i := 209) rfl rfl
theorem zw41 : Cond.methodLink RX2 3 objectInit ∈ zWS := zin_1 (i := 189) rfl rfl
theorem zw42 : Cond.classLink RX2 9 RX8 ∈ zWS := zin_1 (i := 190) rfl rfl
theorem zw43 : Cond.fieldLink RX2 11 RX2 "states" "[LGlossaryLinker$State;" ∈ zWS := zin_1 (i := 193) rfl rfl
theorem zw44 : Cond.instantiable RX8 7 ∈ zWS := zin_1 (i := 140) rfl rfl
theorem zw45 : Cond.methodLink RX2 17 yX8_init ∈ zWS := zin_1 (i := 192) rfl rfl
theorem zw46 : Cond.instanceMethod yX8_init ∈ zWS := zin_1 (i := 142) rfl rfl
theorem zw47 : Cond.code yX8_init cX8_init 2 none ∈ zWS := zin_1 (i := 143) rfl rfl
theorem zw48 : Cond.fieldLink RX2 18 RX2 "size" "I" ∈ zWS := zin_1 (i := 194) rfl rfl
theorem zw49 : Cond.methodLink RX2 22 yX2_dropOldest ∈ zWS := zin_2 (i := 181) rfl rfl
theorem zw50 : Cond.instanceMethod yX2_dropOldest ∈ zWS := zin_2 (i := 183) rfl rfl
theorem zw51 : Cond.selects RX2 yX2_dropOldest yX2_dropOldest ∈ zWS := zin_s (i := 11) rfl rfl
theorem zw52 : Cond.initialized RX2 ∈ zWS := zin_1 (i := 7) rfl rfl
theorem zw53 : Cond.code yX2_dropOldest cX2_dropOldest 3 none ∈ zWS := zin_2 (i := 184) rfl rfl
theorem zw54 : Cond.methodLink RX2 25 yX8_copyFrom ∈ zWS := zin_2 (i := 185) rfl rfl
theorem zw55 : Cond.instanceMethod yX8_copyFrom ∈ zWS := zin_2 (i := 186) rfl rfl
theorem zw56 : Cond.selects RX8 yX8_copyFrom yX8_copyFrom ∈ zWS := zin_2 (i := 187) rfl rfl
theorem zw57 : Cond.code yX8_copyFrom cX8_copyFrom 3 none ∈ zWS := zin_2 (i := 188) rfl rfl
theorem zw58 : Cond.methodLink RX3 3 objectInit ∈ zWS := zin_1 (i := 234) rfl rfl
theorem zw59 : Cond.classLink RX3 9 RX0 ∈ zWS := zin_1 (i := 235) rfl rfl
theorem zw60 : Cond.fieldLink RX3 11 RX3 "bases" "[LGlossaryLinker$Bases;" ∈ zWS := zin_2 (i := 35) rfl rfl
theorem zw61 : Cond.fieldLink RX3 17 RX3 "sections" "[I" ∈ zWS := zin_2 (i := 36) rfl rfl
theorem zw62 : Cond.fieldLink RX3 21 RX3 "heads" "[J" ∈ zWS := zin_2 (i := 37) rfl rfl
theorem zw63 : Cond.fieldLink RX3 25 RX3 "levels" "[I" ∈ zWS := zin_2 (i := 38) rfl rfl
theorem zw64 : Cond.fieldLink RX3 28 RX3 "meant" "[I" ∈ zWS := zin_2 (i := 39) rfl rfl
theorem zw65 : Cond.fieldLink RX3 31 RX3 "scores" "[I" ∈ zWS := zin_2 (i := 40) rfl rfl
theorem zw66 : Cond.arrayClass .boolean ∈ zWS := zin_2 (i := 17) rfl rfl
theorem zw67 : Cond.fieldLink RX3 34 RX3 "onOwnPage" "[Z" ∈ zWS := zin_2 (i := 41) rfl rfl
theorem zw68 : Cond.fieldLink RX3 38 RX3 "reasons" "[I" ∈ zWS := zin_2 (i := 42) rfl rfl
theorem zw69 : Cond.fieldLink RX3 41 RX3 "thought" "[I" ∈ zWS := zin_2 (i := 43) rfl rfl
theorem zw70 : Cond.classLink RX3 44 RX5 ∈ zWS := zin_1 (i := 237) rfl rfl
theorem zw71 : Cond.instantiable RX5 4 ∈ zWS := zin_1 (i := 238) rfl rfl
theorem zw72 : Cond.initialized RX5 ∈ zWS := zin_1 (i := 10) rfl rfl
theorem zw73 : Cond.instanceMethod yX5_init ∈ zWS := zin_2 (i := 0) rfl rfl
theorem zw74 : Cond.code yX5_init cX5_init 1 none ∈ zWS := zin_2 (i := 1) rfl rfl
theorem zw75 : Cond.fieldLink RX3 47 RX3 "pass" "LGlossaryLinker$Pass;" ∈ zWS := zin_2 (i := 44) rfl rfl
theorem zw76 : Cond.instantiable RX0 3 ∈ zWS := zin_2 (i := 18) rfl rfl
theorem zw77 : Cond.instanceMethod yX0_init ∈ zWS := zin_2 (i := 20) rfl rfl
theorem zw78 : Cond.code yX0_init cX0_init 1 none ∈ zWS := zin_2 (i := 21) rfl rfl
theorem zw79 : Cond.methodLink RX3 52 yX8_pageAt ∈ zWS := zin_3 (i := 76) rfl rfl
theorem zw80 : Cond.instanceMethod yX8_pageAt ∈ zWS := zin_2 (i := 118) rfl rfl
theorem zw81 : Cond.selects RX8 yX8_pageAt yX8_pageAt ∈ zWS := zin_2 (i := 119) rfl rfl
theorem zw82 : Cond.code yX8_pageAt cX8_pageAt 2 (some (.object RX4)) ∈ zWS := zin_2 (i := 120) rfl rfl
theorem zw83 : Cond.fieldLink RX3 58 RX4 "size" "I" ∈ zWS := zin_1 (i := 39) rfl rfl
theorem zw84 : Cond.methodLink RX3 64 Lib.Math.min.name ∈ zWS := zin_3 (i := 77) rfl rfl
theorem zw85 : Cond.static Lib.Math.min.name ∈ zWS := zin_3 (i := 78) rfl rfl
theorem zw86 : Cond.initialized "java/lang/Math" ∈ zWS := zin_1 (i := 15) rfl rfl
theorem zw87 : Cond.code Lib.Math.min.name Lib.Math.min.code 2 (some .int) ∈ zWS := zin_3 (i := 79) rfl rfl
theorem zw88 : Cond.fieldLink RX3 70 RX3 "size" "I" ∈ zWS := zin_2 (i := 45) rfl rfl
theorem zw89 : Cond.fieldLink RX3 71 RX8 "gap" "I" ∈ zWS := zin_1 (i := 167) rfl rfl
theorem zw90 : Cond.fieldLink RX3 74 RX3 "gap" "I" ∈ zWS := zin_2 (i := 47) rfl rfl
theorem zw91 : Cond.fieldLink RX3 75 RX4 "budget" "I" ∈ zWS := zin_1 (i := 43) rfl rfl
theorem zw92 : Cond.fieldLink RX3 78 RX3 "budget" "I" ∈ zWS := zin_2 (i := 48) rfl rfl
theorem zw93 : Cond.methodLink RX3 79 yX4_sectionAt ∈ zWS := zin_3 (i := 80) rfl rfl
theorem zw94 : Cond.instanceMethod yX4_sectionAt ∈ zWS := zin_3 (i := 81) rfl rfl
theorem zw95 : Cond.selects RX4 yX4_sectionAt yX4_sectionAt ∈ zWS := zin_3 (i := 82) rfl rfl
theorem zw96 : Cond.initialized RX4 ∈ zWS := zin_1 (i := 3) rfl rfl
theorem zw97 : Cond.code yX4_sectionAt cX4_sectionAt 2 (some .int) ∈ zWS := zin_3 (i := 83) rfl rfl
theorem zw98 : Cond.methodLink RX3 83 yX3_basesAt ∈ zWS := zin_3 (i := 84) rfl rfl
theorem zw99 : Cond.instanceMethod yX3_basesAt ∈ zWS := zin_3 (i := 85) rfl rfl
theorem zw100 : Cond.selects RX3 yX3_basesAt yX3_basesAt ∈ zWS := zin_3 (i := 86) rfl rfl
theorem zw101 : Cond.initialized RX3 ∈ zWS := zin_1 (i := 9) rfl rfl
theorem zw102 : Cond.code yX3_basesAt cX3_basesAt 2 (some (.object RX0)) ∈ zWS := zin_3 (i := 87) rfl rfl
theorem zw103 : Cond.methodLink RX3 87 yX4_wordAt ∈ zWS := zin_3 (i := 88) rfl rfl
theorem zw104 : Cond.instanceMethod yX4_wordAt ∈ zWS := zin_3 (i := 89) rfl rfl
theorem zw105 : Cond.selects RX4 yX4_wordAt yX4_wordAt ∈ zWS := zin_3 (i := 90) rfl rfl
theorem zw106 : Cond.code yX4_wordAt cX4_wordAt 2 (some .long) ∈ zWS := zin_3 (i := 91) rfl rfl
theorem zw107 : Cond.methodLink RX3 91 yX0_followFrom ∈ zWS := zin_3 (i := 92) rfl rfl
theorem zw108 : Cond.instanceMethod yX0_followFrom ∈ zWS := zin_3 (i := 93) rfl rfl
theorem zw109 : Cond.selects RX0 yX0_followFrom yX0_followFrom ∈ zWS := zin_3 (i := 94) rfl rfl
theorem zw110 : Cond.code yX0_followFrom cX0_followFrom 7 none ∈ zWS := zin_3 (i := 95) rfl rfl
theorem zw111 : Cond.methodLink RX3 95 yX3_findHead ∈ zWS := zin_3 (i := 109) rfl rfl
theorem zw112 : Cond.instanceMethod yX3_findHead ∈ zWS := zin_3 (i := 111) rfl rfl
theorem zw113 : Cond.selects RX3 yX3_findHead yX3_findHead ∈ zWS := zin_s (i := 19) rfl rfl
theorem zw114 : Cond.code yX3_findHead cX3_findHead 5 none ∈ zWS := zin_3 (i := 112) rfl rfl
theorem zw115 : Cond.methodLink RX3 99 yX3_chooseSense ∈ zWS := zin_3 (i := 125) rfl rfl
theorem zw116 : Cond.instanceMethod yX3_chooseSense ∈ zWS := zin_3 (i := 127) rfl rfl
theorem zw117 : Cond.selects RX3 yX3_chooseSense yX3_chooseSense ∈ zWS := zin_s (i := 20) rfl rfl
theorem zw118 : Cond.code yX3_chooseSense cX3_chooseSense 7 none ∈ zWS := zin_3 (i := 128) rfl rfl
theorem zw119 : Cond.methodLink RX3 102 yX8_senseAt ∈ zWS := zin_3 (i := 129) rfl rfl
theorem zw120 : Cond.instanceMethod yX8_senseAt ∈ zWS := zin_2 (i := 202) rfl rfl
theorem zw121 : Cond.selects RX8 yX8_senseAt yX8_senseAt ∈ zWS := zin_2 (i := 203) rfl rfl
theorem zw122 : Cond.code yX8_senseAt cX8_senseAt 2 (some (.object RX7)) ∈ zWS := zin_2 (i := 204) rfl rfl
theorem zw123 : Cond.fieldLink RX3 106 RX7 "own" "I" ∈ zWS := zin_1 (i := 73) rfl rfl
theorem zw124 : Cond.methodLink RX3 111 yX3_goThrough ∈ zWS := zin_3 (i := 143) rfl rfl
theorem zw125 : Cond.instanceMethod yX3_goThrough ∈ zWS := zin_3 (i := 145) rfl rfl
theorem zw126 : Cond.selects RX3 yX3_goThrough yX3_goThrough ∈ zWS := zin_s (i := 22) rfl rfl
theorem zw127 : Cond.code yX3_goThrough cX3_goThrough 5 (some .int) ∈ zWS := zin_3 (i := 146) rfl rfl
theorem zw128 : Cond.fieldLink RX3 115 RX3 "fresh" "Z" ∈ zWS := zin_2 (i := 49) rfl rfl
theorem zw129 : Cond.fieldLink RX3 121 RX0 "size" "I" ∈ zWS := zin_2 (i := 26) rfl rfl
theorem zw130 : Cond.methodLink RX3 122 yX0_wordAt ∈ zWS := zin_3 (i := 113) rfl rfl
theorem zw131 : Cond.instanceMethod yX0_wordAt ∈ zWS := zin_3 (i := 114) rfl rfl
theorem zw132 : Cond.selects RX0 yX0_wordAt yX0_wordAt ∈ zWS := zin_3 (i := 115) rfl rfl
theorem zw133 : Cond.code yX0_wordAt cX0_wordAt 2 (some .long) ∈ zWS := zin_3 (i := 116) rfl rfl
theorem zw134 : Cond.methodLink RX3 123 yX8_isHead ∈ zWS := zin_3 (i := 117) rfl rfl
theorem zw135 : Cond.instanceMethod yX8_isHead ∈ zWS := zin_3 (i := 118) rfl rfl
theorem zw136 : Cond.selects RX8 yX8_isHead yX8_isHead ∈ zWS := zin_3 (i := 119) rfl rfl
theorem zw137 : Cond.code yX8_isHead cX8_isHead 5 (some .boolean) ∈ zWS := zin_3 (i := 120) rfl rfl
theorem zw138 : Cond.methodLink RX3 127 yX0_levelAt ∈ zWS := zin_3 (i := 121) rfl rfl
theorem zw139 : Cond.instanceMethod yX0_levelAt ∈ zWS := zin_3 (i := 122) rfl rfl
theorem zw140 : Cond.selects RX0 yX0_levelAt yX0_levelAt ∈ zWS := zin_3 (i := 123) rfl rfl
theorem zw141 : Cond.code yX0_levelAt cX0_levelAt 2 (some .int) ∈ zWS := zin_3 (i := 124) rfl rfl
theorem zw142 : Cond.fieldLink RX3 130 RX8 "senseCount" "I" ∈ zWS := zin_1 (i := 159) rfl rfl
theorem zw143 : Cond.fieldLink RX3 133 RX7 "head" "J" ∈ zWS := zin_1 (i := 64) rfl rfl
theorem zw144 : Cond.fieldLink RX3 137 RX8 "window" "I" ∈ zWS := zin_1 (i := 164) rfl rfl
theorem zw145 : Cond.methodLink RX3 140 yX3_scoreOf ∈ zWS := zin_3 (i := 130) rfl rfl
theorem zw146 : Cond.instanceMethod yX3_scoreOf ∈ zWS := zin_3 (i := 132) rfl rfl
theorem zw147 : Cond.selects RX3 yX3_scoreOf yX3_scoreOf ∈ zWS := zin_s (i := 21) rfl rfl
theorem zw148 : Cond.code yX3_scoreOf cX3_scoreOf 11 (some .int) ∈ zWS := zin_3 (i := 133) rfl rfl
theorem zw149 : Cond.fieldLink RX3 144 RX7 "hintCount" "I" ∈ zWS := zin_1 (i := 70) rfl rfl
theorem zw150 : Cond.methodLink RX3 147 yX7_hintAt ∈ zWS := zin_3 (i := 134) rfl rfl
theorem zw151 : Cond.instanceMethod yX7_hintAt ∈ zWS := zin_3 (i := 135) rfl rfl
theorem zw152 : Cond.selects RX7 yX7_hintAt yX7_hintAt ∈ zWS := zin_3 (i := 136) rfl rfl
theorem zw153 : Cond.initialized RX7 ∈ zWS := zin_1 (i := 4) rfl rfl
theorem zw154 : Cond.code yX7_hintAt cX7_hintAt 2 (some .long) ∈ zWS := zin_3 (i := 137) rfl rfl
theorem zw155 : Cond.methodLink RX3 150 yX3_sectionAt ∈ zWS := zin_3 (i := 138) rfl rfl
theorem zw156 : Cond.instanceMethod yX3_sectionAt ∈ zWS := zin_3 (i := 139) rfl rfl
theorem zw157 : Cond.selects RX3 yX3_sectionAt yX3_sectionAt ∈ zWS := zin_3 (i := 140) rfl rfl
theorem zw158 : Cond.code yX3_sectionAt cX3_sectionAt 2 (some .int) ∈ zWS := zin_3 (i := 141) rfl rfl
theorem zw159 : Cond.methodLink RX3 151 yX0_has ∈ zWS := zin_3 (i := 142) rfl rfl
theorem zw160 : Cond.methodLink RX3 154 yX5_start ∈ zWS := zin_3 (i := 147) rfl rfl
theorem zw161 : Cond.instanceMethod yX5_start ∈ zWS := zin_3 (i := 148) rfl rfl
theorem zw162 : Cond.selects RX5 yX5_start yX5_start ∈ zWS := zin_3 (i := 149) rfl rfl
theorem zw163 : Cond.code yX5_start cX5_start 1 none ∈ zWS := zin_3 (i := 150) rfl rfl
theorem zw164 : Cond.methodLink RX3 157 yX5_enter ∈ zWS := zin_3 (i := 151) rfl rfl
theorem zw165 : Cond.instanceMethod yX5_enter ∈ zWS := zin_3 (i := 152) rfl rfl
theorem zw166 : Cond.selects RX5 yX5_enter yX5_enter ∈ zWS := zin_3 (i := 153) rfl rfl
theorem zw167 : Cond.code yX5_enter cX5_enter 2 none ∈ zWS := zin_3 (i := 154) rfl rfl
theorem zw168 : Cond.methodLink RX3 161 yX3_reasonInPass ∈ zWS := zin_3 (i := 155) rfl rfl
theorem zw169 : Cond.instanceMethod yX3_reasonInPass ∈ zWS := zin_3 (i := 157) rfl rfl
theorem zw170 : Cond.selects RX3 yX3_reasonInPass yX3_reasonInPass ∈ zWS := zin_s (i := 23) rfl rfl
theorem zw171 : Cond.code yX3_reasonInPass cX3_reasonInPass 3 (some .int) ∈ zWS := zin_3 (i := 158) rfl rfl
theorem zw172 : Cond.methodLink RX3 164 yX3_meantAt ∈ zWS := zin_3 (i := 163) rfl rfl
theorem zw173 : Cond.instanceMethod yX3_meantAt ∈ zWS := zin_3 (i := 164) rfl rfl
theorem zw174 : Cond.selects RX3 yX3_meantAt yX3_meantAt ∈ zWS := zin_3 (i := 165) rfl rfl
theorem zw175 : Cond.code yX3_meantAt cX3_meantAt 2 (some .int) ∈ zWS := zin_3 (i := 166) rfl rfl
theorem zw176 : Cond.methodLink RX3 167 yX5_add ∈ zWS := zin_3 (i := 175) rfl rfl
theorem zw177 : Cond.instanceMethod yX5_add ∈ zWS := zin_3 (i := 176) rfl rfl
theorem zw178 : Cond.selects RX5 yX5_add yX5_add ∈ zWS := zin_3 (i := 177) rfl rfl
theorem zw179 : Cond.code yX5_add cX5_add 3 none ∈ zWS := zin_3 (i := 178) rfl rfl
theorem zw180 : Cond.fieldLink RX3 171 RX5 "links" "I" ∈ zWS := zin_2 (i := 7) rfl rfl
theorem zw181 : Cond.methodLink RX3 174 yX3_levelAt ∈ zWS := zin_3 (i := 159) rfl rfl
theorem zw182 : Cond.instanceMethod yX3_levelAt ∈ zWS := zin_3 (i := 160) rfl rfl
theorem zw183 : Cond.selects RX3 yX3_levelAt yX3_levelAt ∈ zWS := zin_3 (i := 161) rfl rfl
theorem zw184 : Cond.code yX3_levelAt cX3_levelAt 2 (some .int) ∈ zWS := zin_3 (i := 162) rfl rfl
theorem zw185 : Cond.methodLink RX3 175 yX3_isOnOwnPage ∈ zWS := zin_3 (i := 167) rfl rfl
theorem zw186 : Cond.instanceMethod yX3_isOnOwnPage ∈ zWS := zin_3 (i := 168) rfl rfl
theorem zw187 : Cond.selects RX3 yX3_isOnOwnPage yX3_isOnOwnPage ∈ zWS := zin_3 (i := 169) rfl rfl
theorem zw188 : Cond.code yX3_isOnOwnPage cX3_isOnOwnPage 2 (some .boolean) ∈ zWS := zin_3 (i := 170) rfl rfl
theorem zw189 : Cond.methodLink RX3 179 yX5_reasonFor ∈ zWS := zin_3 (i := 171) rfl rfl
theorem zw190 : Cond.instanceMethod yX5_reasonFor ∈ zWS := zin_3 (i := 172) rfl rfl
theorem zw191 : Cond.selects RX5 yX5_reasonFor yX5_reasonFor ∈ zWS := zin_3 (i := 173) rfl rfl
theorem zw192 : Cond.code yX5_reasonFor cX5_reasonFor 5 (some .int) ∈ zWS := zin_3 (i := 174) rfl rfl
theorem zw193 : Cond.methodLink RX3 183 yX3_reasonAt ∈ zWS := zin_3 (i := 187) rfl rfl
theorem zw194 : Cond.instanceMethod yX3_reasonAt ∈ zWS := zin_3 (i := 188) rfl rfl
theorem zw195 : Cond.selects RX3 yX3_reasonAt yX3_reasonAt ∈ zWS := zin_3 (i := 189) rfl rfl
theorem zw196 : Cond.code yX3_reasonAt cX3_reasonAt 2 (some .int) ∈ zWS := zin_3 (i := 190) rfl rfl
theorem zw197 : Cond.methodLink RX3 186 yX3_linkedSenseAt ∈ zWS := zin_3 (i := 183) rfl rfl
theorem zw198 : Cond.instanceMethod yX3_linkedSenseAt ∈ zWS := zin_3 (i := 184) rfl rfl
theorem zw199 : Cond.selects RX3 yX3_linkedSenseAt yX3_linkedSenseAt ∈ zWS := zin_3 (i := 185) rfl rfl
theorem zw200 : Cond.code yX3_linkedSenseAt cX3_linkedSenseAt 2 (some .int) ∈ zWS := zin_3 (i := 186) rfl rfl
theorem zw201 : Cond.methodLink RX3 189 yX3_asksAhead ∈ zWS := zin_4 (i := 105) rfl rfl
theorem zw202 : Cond.static yX3_asksAhead ∈ zWS := zin_4 (i := 106) rfl rfl
theorem zw203 : Cond.code yX3_asksAhead cX3_asksAhead 8 (some .boolean) ∈ zWS := zin_4 (i := 107) rfl rfl
theorem zw204 : Cond.methodLink RX3 193 Lib.Math.max.name ∈ zWS := zin_4 (i := 108) rfl rfl
theorem zw205 : Cond.static Lib.Math.max.name ∈ zWS := zin_4 (i := 109) rfl rfl
theorem zw206 : Cond.code Lib.Math.max.name Lib.Math.max.code 2 (some .int) ∈ zWS := zin_4 (i := 110) rfl rfl
theorem zw207 : Cond.methodLink RX4 3 objectInit ∈ zWS := zin_1 (i := 35) rfl rfl
theorem zw208 : Cond.fieldLink RX4 9 RX4 "words" "[J" ∈ zWS := zin_1 (i := 36) rfl rfl
theorem zw209 : Cond.fieldLink RX4 15 RX4 "sections" "[I" ∈ zWS := zin_1 (i := 37) rfl rfl
theorem zw210 : Cond.fieldLink RX4 19 RX4 "budget" "I" ∈ zWS := zin_1 (i := 42) rfl rfl
theorem zw211 : Cond.fieldLink RX4 23 RX4 "size" "I" ∈ zWS := zin_1 (i := 38) rfl rfl
theorem zw212 : Cond.methodLink RX4 28 yX4_sectionAt ∈ zWS := zin_3 (i := 195) rfl rfl
theorem zw213 : Cond.methodLink RX4 32 yX4_hasSection ∈ zWS := zin_3 (i := 226) rfl rfl
theorem zw214 : Cond.instanceMethod yX4_hasSection ∈ zWS := zin_3 (i := 228) rfl rfl
theorem zw215 : Cond.selects RX4 yX4_hasSection yX4_hasSection ∈ zWS := zin_s (i := 25) rfl rfl
theorem zw216 : Cond.code yX4_hasSection cX4_hasSection 3 (some .boolean) ∈ zWS := zin_3 (i := 229) rfl rfl
theorem zw217 : Cond.methodLink RX4 36 yX4_closeUpSections ∈ zWS := zin_3 (i := 230) rfl rfl
theorem zw218 : Cond.instanceMethod yX4_closeUpSections ∈ zWS := zin_3 (i := 232) rfl rfl
theorem zw219 : Cond.selects RX4 yX4_closeUpSections yX4_closeUpSections ∈ zWS := zin_s (i := 26) rfl rfl
theorem zw220 : Cond.code yX4_closeUpSections cX4_closeUpSections 3 none ∈ zWS := zin_3 (i := 233) rfl rfl
theorem zw221 : Cond.methodLink RX4 40 arraycopyName ∈ zWS := zin_2 (i := 198) rfl rfl
theorem zw222 : Cond.native arraycopyName ∈ zWS := zin_2 (i := 200) rfl rfl
theorem zw223 : Cond.static arraycopyName ∈ zWS := zin_2 (i := 199) rfl rfl
theorem zw224 : Cond.initialized "java/lang/System" ∈ zWS := zin_1 (i := 14) rfl rfl
theorem zw225 : Cond.methodLink RX4 46 yX4_copyWords ∈ zWS := zin_2 (i := 194) rfl rfl
theorem zw226 : Cond.instanceMethod yX4_copyWords ∈ zWS := zin_2 (i := 195) rfl rfl
theorem zw227 : Cond.selects RX4 yX4_copyWords yX4_copyWords ∈ zWS := zin_2 (i := 196) rfl rfl
theorem zw228 : Cond.code yX4_copyWords cX4_copyWords 2 none ∈ zWS := zin_2 (i := 197) rfl rfl
theorem zw229 : Cond.methodLink RX5 3 objectInit ∈ zWS := zin_2 (i := 2) rfl rfl
theorem zw230 : Cond.fieldLink RX5 9 RX5 "section" "I" ∈ zWS := zin_2 (i := 3) rfl rfl
theorem zw231 : Cond.fieldLink RX5 15 RX5 "sensesOfSection" "I" ∈ zWS := zin_2 (i := 4) rfl rfl
theorem zw232 : Cond.fieldLink RX5 18 RX5 "latest" "I" ∈ zWS := zin_2 (i := 5) rfl rfl
theorem zw233 : Cond.fieldLink RX5 21 RX5 "links" "I" ∈ zWS := zin_2 (i := 6) rfl rfl
theorem zw234 : Cond.methodLink RX6 3 objectInit ∈ zWS := zin_1 (i := 90) rfl rfl
theorem zw235 : Cond.fieldLink RX6 9 RX6 "ending" "J" ∈ zWS := zin_1 (i := 91) rfl rfl
theorem zw236 : Cond.fieldLink RX6 15 RX6 "replacement" "J" ∈ zWS := zin_1 (i := 92) rfl rfl
theorem zw237 : Cond.methodLink RX6 20 yX10_lengthOf ∈ zWS := zin_3 (i := 23) rfl rfl
theorem zw238 : Cond.static yX10_lengthOf ∈ zWS := zin_3 (i := 24) rfl rfl
theorem zw239 : Cond.initialized RX10 ∈ zWS := zin_1 (i := 13) rfl rfl
theorem zw240 : Cond.code yX10_lengthOf cX10_lengthOf 5 (some .int) ∈ zWS := zin_3 (i := 25) rfl rfl
theorem zw241 : Cond.fieldLink RX6 24 RX6 "endingBits" "I" ∈ zWS := zin_1 (i := 93) rfl rfl
theorem zw242 : Cond.fieldLink RX6 28 RX6 "replacementBits" "I" ∈ zWS := zin_1 (i := 94) rfl rfl
theorem zw243 : Cond.methodLink RX7 3 objectInit ∈ zWS := zin_1 (i := 61) rfl rfl
theorem zw244 : Cond.fieldLink RX7 9 RX7 "hints" "[J" ∈ zWS := zin_1 (i := 67) rfl rfl
theorem zw245 : Cond.fieldLink RX7 15 RX7 "own" "I" ∈ zWS := zin_1 (i := 72) rfl rfl
theorem zw246 : Cond.fieldLink RX7 19 RX7 "hintCount" "I" ∈ zWS := zin_1 (i := 68) rfl rfl
theorem zw247 : Cond.fieldLink RX7 24 RX7 "head" "J" ∈ zWS := zin_1 (i := 62) rfl rfl
theorem zw248 : Cond.methodLink RX7 28 arraycopyName ∈ zWS := zin_2 (i := 209) rfl rfl
theorem zw249 : Cond.methodLink RX8 3 objectInit ∈ zWS := zin_1 (i := 144) rfl rfl
theorem zw250 : Cond.classLink RX8 9 RX4 ∈ zWS := zin_1 (i := 145) rfl rfl
theorem zw251 : Cond.fieldLink RX8 11 RX8 "pages" "[LGlossaryLinker$Page;" ∈ zWS := zin_1 (i := 154) rfl rfl
theorem zw252 : Cond.classLink RX8 17 RX7 ∈ zWS := zin_1 (i := 147) rfl rfl
theorem zw253 : Cond.fieldLink RX8 19 RX8 "senses" "[LGlossaryLinker$Sense;" ∈ zWS := zin_1 (i := 155) rfl rfl
theorem zw254 : Cond.classLink RX8 23 RX6 ∈ zWS := zin_1 (i := 149) rfl rfl
theorem zw255 : Cond.fieldLink RX8 25 RX8 "rules" "[LGlossaryLinker$Rule;" ∈ zWS := zin_1 (i := 156) rfl rfl
theorem zw256 : Cond.fieldLink RX8 29 RX8 "window" "I" ∈ zWS := zin_1 (i := 163) rfl rfl
theorem zw257 : Cond.fieldLink RX8 33 RX8 "gap" "I" ∈ zWS := zin_1 (i := 166) rfl rfl
theorem zw258 : Cond.instantiable RX4 4 ∈ zWS := zin_1 (i := 31) rfl rfl
theorem zw259 : Cond.instanceMethod yX4_init ∈ zWS := zin_1 (i := 33) rfl rfl
theorem zw260 : Cond.code yX4_init cX4_init 1 none ∈ zWS := zin_1 (i := 34) rfl rfl
theorem zw261 : Cond.instantiable RX7 4 ∈ zWS := zin_1 (i := 57) rfl rfl
theorem zw262 : Cond.instanceMethod yX7_init ∈ zWS := zin_1 (i := 59) rfl rfl
theorem zw263 : Cond.code yX7_init cX7_init 1 none ∈ zWS := zin_1 (i := 60) rfl rfl
theorem zw264 : Cond.instantiable RX6 4 ∈ zWS := zin_1 (i := 86) rfl rfl
theorem zw265 : Cond.instanceMethod yX6_init ∈ zWS := zin_1 (i := 88) rfl rfl
theorem zw266 : Cond.code yX6_init cX6_init 1 none ∈ zWS := zin_1 (i := 89) rfl rfl
theorem zw267 : Cond.fieldLink RX8 39 RX8 "senseCount" "I" ∈ zWS := zin_1 (i := 157) rfl rfl
theorem zw268 : Cond.fieldLink RX8 42 RX8 "ruleCount" "I" ∈ zWS := zin_1 (i := 160) rfl rfl
theorem zw269 : Cond.methodLink RX8 45 yX8_senseAt ∈ zWS := zin_2 (i := 201) rfl rfl
theorem zw270 : Cond.fieldLink RX8 49 RX7 "head" "J" ∈ zWS := zin_1 (i := 65) rfl rfl
theorem zw271 : Cond.methodLink RX8 53 yX7_copyFrom ∈ zWS := zin_2 (i := 205) rfl rfl
theorem zw272 : Cond.instanceMethod yX7_copyFrom ∈ zWS := zin_2 (i := 206) rfl rfl
theorem zw273 : Cond.selects RX7 yX7_copyFrom yX7_copyFrom ∈ zWS := zin_2 (i := 207) rfl rfl
theorem zw274 : Cond.code yX7_copyFrom cX7_copyFrom 2 none ∈ zWS := zin_2 (i := 208) rfl rfl
theorem zw275 : Cond.methodLink RX8 57 yX6_copyFrom ∈ zWS := zin_2 (i := 214) rfl rfl
theorem zw276 : Cond.instanceMethod yX6_copyFrom ∈ zWS := zin_2 (i := 215) rfl rfl
theorem zw277 : Cond.selects RX6 yX6_copyFrom yX6_copyFrom ∈ zWS := zin_2 (i := 216) rfl rfl
theorem zw278 : Cond.code yX6_copyFrom cX6_copyFrom 2 none ∈ zWS := zin_2 (i := 217) rfl rfl
theorem zw279 : Cond.methodLink RX8 60 yX8_ruleAt ∈ zWS := zin_2 (i := 210) rfl rfl
theorem zw280 : Cond.methodLink RX8 64 yX8_pageAt ∈ zWS := zin_2 (i := 189) rfl rfl
theorem zw281 : Cond.methodLink RX8 68 yX4_copyFrom ∈ zWS := zin_2 (i := 190) rfl rfl
theorem zw282 : Cond.instanceMethod yX4_copyFrom ∈ zWS := zin_2 (i := 191) rfl rfl
theorem zw283 : Cond.selects RX4 yX4_copyFrom yX4_copyFrom ∈ zWS := zin_2 (i := 192) rfl rfl
theorem zw284 : Cond.code yX4_copyFrom cX4_copyFrom 2 none ∈ zWS := zin_2 (i := 193) rfl rfl
theorem zw285 : Cond.methodLink RX9 3 objectInit ∈ zWS := zin_1 (i := 29) rfl rfl
theorem zw286 : Cond.fieldLink RX9 9 RX9 "bytes" "[I" ∈ zWS := zin_1 (i := 104) rfl rfl
theorem zw287 : Cond.fieldLink RX9 15 RX9 "wrong" "I" ∈ zWS := zin_1 (i := 108) rfl rfl
theorem zw288 : Cond.fieldLink RX9 19 RX9 "cause" "I" ∈ zWS := zin_1 (i := 110) rfl rfl
theorem zw289 : Cond.classLink RX9 22 RX4 ∈ zWS := zin_1 (i := 30) rfl rfl
theorem zw290 : Cond.fieldLink RX9 25 RX9 "page" "LGlossaryLinker$Page;" ∈ zWS := zin_1 (i := 112) rfl rfl
theorem zw291 : Cond.classLink RX9 29 RX7 ∈ zWS := zin_1 (i := 56) rfl rfl
theorem zw292 : Cond.fieldLink RX9 32 RX9 "sense" "LGlossaryLinker$Sense;" ∈ zWS := zin_1 (i := 114) rfl rfl
theorem zw293 : Cond.classLink RX9 36 RX6 ∈ zWS := zin_1 (i := 85) rfl rfl
theorem zw294 : Cond.fieldLink RX9 39 RX9 "rule" "LGlossaryLinker$Rule;" ∈ zWS := zin_1 (i := 116) rfl rfl
theorem zw295 : Cond.fieldLink RX9 43 RX9 "length" "I" ∈ zWS := zin_1 (i := 105) rfl rfl
theorem zw296 : Cond.methodLink RX9 46 yX9_start ∈ zWS := zin_2 (i := 125) rfl rfl
theorem zw297 : Cond.instanceMethod yX9_start ∈ zWS := zin_2 (i := 127) rfl rfl
theorem zw298 : Cond.selects RX9 yX9_start yX9_start ∈ zWS := zin_s (i := 0) rfl rfl
theorem zw299 : Cond.initialized RX9 ∈ zWS := zin_1 (i := 2) rfl rfl
theorem zw300 : Cond.code yX9_start cX9_start 1 none ∈ zWS := zin_2 (i := 128) rfl rfl
theorem zw301 : Cond.fieldLink RX9 49 RX4 "size" "I" ∈ zWS := zin_1 (i := 40) rfl rfl
theorem zw302 : Cond.methodLink RX9 52 yX9_takeSections ∈ zWS := zin_2 (i := 129) rfl rfl
theorem zw303 : Cond.instanceMethod yX9_takeSections ∈ zWS := zin_2 (i := 131) rfl rfl
theorem zw304 : Cond.selects RX9 yX9_takeSections yX9_takeSections ∈ zWS := zin_s (i := 1) rfl rfl
theorem zw305 : Cond.code yX9_takeSections cX9_takeSections 3 none ∈ zWS := zin_2 (i := 132) rfl rfl
theorem zw306 : Cond.methodLink RX9 55 yX9_finish ∈ zWS := zin_2 (i := 169) rfl rfl
theorem zw307 : Cond.instanceMethod yX9_finish ∈ zWS := zin_2 (i := 171) rfl rfl
theorem zw308 : Cond.selects RX9 yX9_finish yX9_finish ∈ zWS := zin_s (i := 9) rfl rfl
theorem zw309 : Cond.code yX9_finish cX9_finish 1 (some .boolean) ∈ zWS := zin_2 (i := 172) rfl rfl
theorem zw310 : Cond.fieldLink RX9 59 RX7 "hintCount" "I" ∈ zWS := zin_1 (i := 69) rfl rfl
theorem zw311 : Cond.fieldLink RX9 62 RX7 "own" "I" ∈ zWS := zin_1 (i := 74) rfl rfl
theorem zw312 : Cond.methodLink RX9 65 yX9_takeWord ∈ zWS := zin_2 (i := 133) rfl rfl
theorem zw313 : Cond.instanceMethod yX9_takeWord ∈ zWS := zin_2 (i := 135) rfl rfl
theorem zw314 : Cond.selects RX9 yX9_takeWord yX9_takeWord ∈ zWS := zin_s (i := 2) rfl rfl
theorem zw315 : Cond.code yX9_takeWord cX9_takeWord 2 (some .long) ∈ zWS := zin_2 (i := 136) rfl rfl
theorem zw316 : Cond.fieldLink RX9 69 RX7 "head" "J" ∈ zWS := zin_1 (i := 63) rfl rfl
theorem zw317 : Cond.methodLink RX9 73 yX9_demand ∈ zWS := zin_2 (i := 165) rfl rfl
theorem zw318 : Cond.instanceMethod yX9_demand ∈ zWS := zin_2 (i := 167) rfl rfl
theorem zw319 : Cond.selects RX9 yX9_demand yX9_demand ∈ zWS := zin_s (i := 8) rfl rfl
theorem zw320 : Cond.code yX9_demand cX9_demand 2 none ∈ zWS := zin_2 (i := 168) rfl rfl
theorem zw321 : Cond.methodLink RX9 77 yX9_atLetter ∈ zWS := zin_2 (i := 137) rfl rfl
theorem zw322 : Cond.instanceMethod yX9_atLetter ∈ zWS := zin_2 (i := 139) rfl rfl
theorem zw323 : Cond.selects RX9 yX9_atLetter yX9_atLetter ∈ zWS := zin_s (i := 3) rfl rfl
theorem zw324 : Cond.code yX9_atLetter cX9_atLetter 2 (some .boolean) ∈ zWS := zin_2 (i := 140) rfl rfl
theorem zw325 : Cond.methodLink RX9 80 yX9_takeHints ∈ zWS := zin_2 (i := 231) rfl rfl
theorem zw326 : Cond.instanceMethod yX9_takeHints ∈ zWS := zin_2 (i := 233) rfl rfl
theorem zw327 : Cond.selects RX9 yX9_takeHints yX9_takeHints ∈ zWS := zin_s (i := 13) rfl rfl
theorem zw328 : Cond.code yX9_takeHints cX9_takeHints 2 none ∈ zWS := zin_2 (i := 234) rfl rfl
theorem zw329 : Cond.methodLink RX9 83 yX9_comes ∈ zWS := zin_2 (i := 161) rfl rfl
theorem zw330 : Cond.instanceMethod yX9_comes ∈ zWS := zin_2 (i := 163) rfl rfl
theorem zw331 : Cond.selects RX9 yX9_comes yX9_comes ∈ zWS := zin_s (i := 7) rfl rfl
theorem zw332 : Cond.code yX9_comes cX9_comes 2 (some .boolean) ∈ zWS := zin_2 (i := 164) rfl rfl
theorem zw333 : Cond.methodLink RX9 87 yX9_takeOwnPage ∈ zWS := zin_2 (i := 239) rfl rfl
theorem zw334 : Cond.instanceMethod yX9_takeOwnPage ∈ zWS := zin_3 (i := 1) rfl rfl
theorem zw335 : Cond.selects RX9 yX9_takeOwnPage yX9_takeOwnPage ∈ zWS := zin_s (i := 14) rfl rfl
theorem zw336 : Cond.code yX9_takeOwnPage cX9_takeOwnPage 2 none ∈ zWS := zin_3 (i := 2) rfl rfl
theorem zw337 : Cond.methodLink RX9 90 yX9_demandEnd ∈ zWS := zin_3 (i := 3) rfl rfl
theorem zw338 : Cond.instanceMethod yX9_demandEnd ∈ zWS := zin_3 (i := 5) rfl rfl
theorem zw339 : Cond.selects RX9 yX9_demandEnd yX9_demandEnd ∈ zWS := zin_s (i := 15) rfl rfl
theorem zw340 : Cond.code yX9_demandEnd cX9_demandEnd 1 none ∈ zWS := zin_3 (i := 6) rfl rfl
theorem zw341 : Cond.methodLink RX9 93 yX9_fail ∈ zWS := zin_2 (i := 145) rfl rfl
theorem zw342 : Cond.instanceMethod yX9_fail ∈ zWS := zin_2 (i := 147) rfl rfl
theorem zw343 : Cond.selects RX9 yX9_fail yX9_fail ∈ zWS := zin_s (i := 5) rfl rfl
theorem zw344 : Cond.code yX9_fail cX9_fail 2 none ∈ zWS := zin_2 (i := 148) rfl rfl
theorem zw345 : Cond.methodLink RX9 96 yX9_takeLetters ∈ zWS := zin_2 (i := 149) rfl rfl
theorem zw346 : Cond.instanceMethod yX9_takeLetters ∈ zWS := zin_2 (i := 151) rfl rfl
theorem zw347 : Cond.selects RX9 yX9_takeLetters yX9_takeLetters ∈ zWS := zin_s (i := 6) rfl rfl
theorem zw348 : Cond.code yX9_takeLetters cX9_takeLetters 5 (some .long) ∈ zWS := zin_2 (i := 152) rfl rfl
theorem zw349 : Cond.methodLink RX9 100 yX6_become ∈ zWS := zin_3 (i := 19) rfl rfl
theorem zw350 : Cond.instanceMethod yX6_become ∈ zWS := zin_3 (i := 20) rfl rfl
theorem zw351 : Cond.selects RX6 yX6_become yX6_become ∈ zWS := zin_3 (i := 21) rfl rfl
theorem zw352 : Cond.code yX6_become cX6_become 5 none ∈ zWS := zin_3 (i := 22) rfl rfl
theorem zw353 : Cond.fieldLink RX9 104 RX9 "word" "J" ∈ zWS := zin_1 (i := 118) rfl rfl
theorem zw354 : Cond.fieldLink RX9 107 RX9 "place" "I" ∈ zWS := zin_1 (i := 107) rfl rfl
theorem zw355 : Cond.methodLink RX9 110 yX9_comingByte ∈ zWS := zin_2 (i := 141) rfl rfl
theorem zw356 : Cond.instanceMethod yX9_comingByte ∈ zWS := zin_2 (i := 143) rfl rfl
theorem zw357 : Cond.selects RX9 yX9_comingByte yX9_comingByte ∈ zWS := zin_s (i := 4) rfl rfl
theorem zw358 : Cond.code yX9_comingByte cX9_comingByte 1 (some .int) ∈ zWS := zin_2 (i := 144) rfl rfl
theorem zw359 : Cond.methodLink RX9 116 yX10_with ∈ zWS := zin_2 (i := 153) rfl rfl
theorem zw360 : Cond.static yX10_with ∈ zWS := zin_2 (i := 154) rfl rfl
theorem zw361 : Cond.code yX10_with cX10_with 3 (some .long) ∈ zWS := zin_2 (i := 155) rfl rfl
theorem zw362 : Cond.methodLink RX9 120 yX4_addWord ∈ zWS := zin_2 (i := 157) rfl rfl
theorem zw363 : Cond.instanceMethod yX4_addWord ∈ zWS := zin_2 (i := 158) rfl rfl
theorem zw364 : Cond.selects RX4 yX4_addWord yX4_addWord ∈ zWS := zin_2 (i := 159) rfl rfl
theorem zw365 : Cond.code yX4_addWord cX4_addWord 4 none ∈ zWS := zin_2 (i := 160) rfl rfl
theorem zw366 : Cond.methodLink RX9 124 yX7_addHint ∈ zWS := zin_2 (i := 235) rfl rfl
theorem zw367 : Cond.instanceMethod yX7_addHint ∈ zWS := zin_2 (i := 236) rfl rfl
theorem zw368 : Cond.selects RX7 yX7_addHint yX7_addHint ∈ zWS := zin_2 (i := 237) rfl rfl
theorem zw369 : Cond.code yX7_addHint cX7_addHint 3 none ∈ zWS := zin_2 (i := 238) rfl rfl
theorem zw370 : Cond.constantLong RX10 11 (Int64.ofInt 31) ∈ zWS := zin_2 (i := 156) rfl rfl
theorem zw371 : Cond.methodLink RX11 3 objectInit ∈ zWS := zin_1 (i := 21) rfl rfl
theorem zw372 : Cond.classLink RX11 9 RX9 ∈ zWS := zin_1 (i := 24) rfl rfl
theorem zw373 : Cond.instantiable RX9 9 ∈ zWS := zin_1 (i := 25) rfl rfl
theorem zw374 : Cond.instanceMethod yX9_init ∈ zWS := zin_1 (i := 27) rfl rfl
theorem zw375 : Cond.code yX9_init cX9_init 1 none ∈ zWS := zin_1 (i := 28) rfl rfl
theorem zw376 : Cond.fieldLink RX11 12 RX11 "tape" "LGlossaryLinker$Tape;" ∈ zWS := zin_2 (i := 80) rfl rfl
theorem zw377 : Cond.classLink RX11 16 RX8 ∈ zWS := zin_1 (i := 139) rfl rfl
theorem zw378 : Cond.methodLink RX11 18 yX8_init ∈ zWS := zin_1 (i := 141) rfl rfl
theorem zw379 : Cond.fieldLink RX11 19 RX11 "now" "LGlossaryLinker$State;" ∈ zWS := zin_2 (i := 81) rfl rfl
theorem zw380 : Cond.fieldLink RX11 23 RX11 "snapshot" "LGlossaryLinker$State;" ∈ zWS := zin_2 (i := 82) rfl rfl
theorem zw381 : Cond.classLink RX11 26 RX2 ∈ zWS := zin_1 (i := 184) rfl rfl
theorem zw382 : Cond.instantiable RX2 2 ∈ zWS := zin_1 (i := 185) rfl rfl
theorem zw383 : Cond.methodLink RX11 28 yX2_init ∈ zWS := zin_1 (i := 186) rfl rfl
theorem zw384 : Cond.instanceMethod yX2_init ∈ zWS := zin_1 (i := 187) rfl rfl
theorem zw385 : Cond.code yX2_init cX2_init 2 none ∈ zWS := zin_1 (i := 188) rfl rfl
theorem zw386 : Cond.fieldLink RX11 29 RX11 "history" "LGlossaryLinker$History;" ∈ zWS := zin_2 (i := 84) rfl rfl
theorem zw387 : Cond.classLink RX11 33 RX3 ∈ zWS := zin_1 (i := 201) rfl rfl
theorem zw388 : Cond.fieldLink RX11 35 RX11 "linkings" "[LGlossaryLinker$Linking;" ∈ zWS := zin_2 (i := 85) rfl rfl
theorem zw389 : Cond.classLink RX11 39 RX1 ∈ zWS := zin_1 (i := 203) rfl rfl
theorem zw390 : Cond.instantiable RX1 5 ∈ zWS := zin_1 (i := 204) rfl rfl
theorem zw391 : Cond.instanceMethod yX1_init ∈ zWS := zin_1 (i := 206) rfl rfl
theorem zw392 : Cond.code yX1_init cX1_init 1 none ∈ zWS := zin_1 (i := 207) rfl rfl
theorem zw393 : Cond.fieldLink RX11 42 RX11 "edit" "LGlossaryLinker$Edit;" ∈ zWS := zin_2 (i := 86) rfl rfl
theorem zw394 : Cond.instantiable RX3 14 ∈ zWS := zin_1 (i := 230) rfl rfl
theorem zw395 : Cond.methodLink RX11 46 yX3_init ∈ zWS := zin_1 (i := 231) rfl rfl
theorem zw396 : Cond.instanceMethod yX3_init ∈ zWS := zin_1 (i := 232) rfl rfl
theorem zw397 : Cond.code yX3_init cX3_init 2 none ∈ zWS := zin_1 (i := 233) rfl rfl
theorem zw398 : Cond.methodLink RX11 47 yX11_isByte ∈ zWS := zin_2 (i := 106) rfl rfl
theorem zw399 : Cond.static yX11_isByte ∈ zWS := zin_2 (i := 107) rfl rfl
theorem zw400 : Cond.initialized RX11 ∈ zWS := zin_1 (i := 1) rfl rfl
theorem zw401 : Cond.code yX11_isByte cX11_isByte 1 (some .boolean) ∈ zWS := zin_2 (i := 108) rfl rfl
theorem zw402 : Cond.fieldLink RX11 51 RX9 "length" "I" ∈ zWS := zin_1 (i := 106) rfl rfl
theorem zw403 : Cond.methodLink RX11 55 yX9_append ∈ zWS := zin_2 (i := 109) rfl rfl
theorem zw404 : Cond.instanceMethod yX9_append ∈ zWS := zin_2 (i := 110) rfl rfl
theorem zw405 : Cond.selects RX9 yX9_append yX9_append ∈ zWS := zin_2 (i := 111) rfl rfl
theorem zw406 : Cond.code yX9_append cX9_append 2 none ∈ zWS := zin_2 (i := 112) rfl rfl
theorem zw407 : Cond.methodLink RX11 59 yX8_pageAt ∈ zWS := zin_2 (i := 117) rfl rfl
theorem zw408 : Cond.methodLink RX11 63 yX9_readPage ∈ zWS := zin_2 (i := 121) rfl rfl
theorem zw409 : Cond.instanceMethod yX9_readPage ∈ zWS := zin_2 (i := 122) rfl rfl
theorem zw410 : Cond.selects RX9 yX9_readPage yX9_readPage ∈ zWS := zin_2 (i := 123) rfl rfl
theorem zw411 : Cond.code yX9_readPage cX9_readPage 1 (some .boolean) ∈ zWS := zin_2 (i := 124) rfl rfl
theorem zw412 : Cond.fieldLink RX11 67 RX9 "wrong" "I" ∈ zWS := zin_1 (i := 109) rfl rfl
theorem zw413 : Cond.methodLink RX11 70 yX11_startChange ∈ zWS := zin_2 (i := 173) rfl rfl
theorem zw414 : Cond.instanceMethod yX11_startChange ∈ zWS := zin_2 (i := 175) rfl rfl
theorem zw415 : Cond.selects RX11 yX11_startChange yX11_startChange ∈ zWS := zin_s (i := 10) rfl rfl
theorem zw416 : Cond.code yX11_startChange cX11_startChange 1 none ∈ zWS := zin_2 (i := 176) rfl rfl
theorem zw417 : Cond.fieldLink RX11 73 RX9 "page" "LGlossaryLinker$Page;" ∈ zWS := zin_1 (i := 113) rfl rfl
theorem zw418 : Cond.methodLink RX11 77 yX4_copyWords ∈ zWS := zin_2 (i := 222) rfl rfl
theorem zw419 : Cond.fieldLink RX11 83 RX4 "size" "I" ∈ zWS := zin_1 (i := 41) rfl rfl
theorem zw420 : Cond.fieldLink RX11 86 RX8 "senseCount" "I" ∈ zWS := zin_1 (i := 158) rfl rfl
theorem zw421 : Cond.methodLink RX11 89 yX9_readSense ∈ zWS := zin_2 (i := 227) rfl rfl
theorem zw422 : Cond.instanceMethod yX9_readSense ∈ zWS := zin_2 (i := 228) rfl rfl
theorem zw423 : Cond.selects RX9 yX9_readSense yX9_readSense ∈ zWS := zin_2 (i := 229) rfl rfl
theorem zw424 : Cond.code yX9_readSense cX9_readSense 1 (some .boolean) ∈ zWS := zin_2 (i := 230) rfl rfl
theorem zw425 : Cond.fieldLink RX11 92 RX9 "sense" "LGlossaryLinker$Sense;" ∈ zWS := zin_1 (i := 115) rfl rfl
theorem zw426 : Cond.methodLink RX11 96 yX8_addSense ∈ zWS := zin_3 (i := 7) rfl rfl
theorem zw427 : Cond.instanceMethod yX8_addSense ∈ zWS := zin_3 (i := 8) rfl rfl
theorem zw428 : Cond.selects RX8 yX8_addSense yX8_addSense ∈ zWS := zin_3 (i := 9) rfl rfl
theorem zw429 : Cond.code yX8_addSense cX8_addSense 3 none ∈ zWS := zin_3 (i := 10) rfl rfl
theorem zw430 : Cond.fieldLink RX11 100 RX8 "ruleCount" "I" ∈ zWS := zin_1 (i := 161) rfl rfl
theorem zw431 : Cond.methodLink RX11 103 yX9_readRule ∈ zWS := zin_3 (i := 15) rfl rfl
theorem zw432 : Cond.instanceMethod yX9_readRule ∈ zWS := zin_3 (i := 16) rfl rfl
theorem zw433 : Cond.selects RX9 yX9_readRule yX9_readRule ∈ zWS := zin_3 (i := 17) rfl rfl
theorem zw434 : Cond.code yX9_readRule cX9_readRule 5 (some .boolean) ∈ zWS := zin_3 (i := 18) rfl rfl
theorem zw435 : Cond.fieldLink RX11 106 RX9 "rule" "LGlossaryLinker$Rule;" ∈ zWS := zin_1 (i := 117) rfl rfl
theorem zw436 : Cond.methodLink RX11 110 yX8_addRule ∈ zWS := zin_3 (i := 26) rfl rfl
theorem zw437 : Cond.instanceMethod yX8_addRule ∈ zWS := zin_3 (i := 27) rfl rfl
theorem zw438 : Cond.selects RX8 yX8_addRule yX8_addRule ∈ zWS := zin_3 (i := 28) rfl rfl
theorem zw439 : Cond.code yX8_addRule cX8_addRule 3 none ∈ zWS := zin_3 (i := 29) rfl rfl
theorem zw440 : Cond.methodLink RX11 114 yX8_senseAt ∈ zWS := zin_3 (i := 34) rfl rfl
theorem zw441 : Cond.methodLink RX11 118 yX8_dropSense ∈ zWS := zin_3 (i := 35) rfl rfl
theorem zw442 : Cond.instanceMethod yX8_dropSense ∈ zWS := zin_3 (i := 36) rfl rfl
theorem zw443 : Cond.selects RX8 yX8_dropSense yX8_dropSense ∈ zWS := zin_3 (i := 37) rfl rfl
theorem zw444 : Cond.code yX8_dropSense cX8_dropSense 4 none ∈ zWS := zin_3 (i := 38) rfl rfl
theorem zw445 : Cond.methodLink RX11 121 yX8_ruleAt ∈ zWS := zin_3 (i := 43) rfl rfl
theorem zw446 : Cond.methodLink RX11 125 yX8_dropRule ∈ zWS := zin_3 (i := 44) rfl rfl
theorem zw447 : Cond.instanceMethod yX8_dropRule ∈ zWS := zin_3 (i := 45) rfl rfl
theorem zw448 : Cond.selects RX8 yX8_dropRule yX8_dropRule ∈ zWS := zin_3 (i := 46) rfl rfl
theorem zw449 : Cond.code yX8_dropRule cX8_dropRule 4 none ∈ zWS := zin_3 (i := 47) rfl rfl
theorem zw450 : Cond.fieldLink RX11 128 RX8 "window" "I" ∈ zWS := zin_1 (i := 165) rfl rfl
theorem zw451 : Cond.fieldLink RX11 131 RX8 "gap" "I" ∈ zWS := zin_1 (i := 168) rfl rfl
theorem zw452 : Cond.fieldLink RX11 134 RX4 "budget" "I" ∈ zWS := zin_1 (i := 44) rfl rfl
theorem zw453 : Cond.methodLink RX11 137 yX9_readWord ∈ zWS := zin_3 (i := 60) rfl rfl
theorem zw454 : Cond.instanceMethod yX9_readWord ∈ zWS := zin_3 (i := 61) rfl rfl
theorem zw455 : Cond.selects RX9 yX9_readWord yX9_readWord ∈ zWS := zin_3 (i := 62) rfl rfl
theorem zw456 : Cond.code yX9_readWord cX9_readWord 1 (some .boolean) ∈ zWS := zin_3 (i := 63) rfl rfl
theorem zw457 : Cond.methodLink RX11 140 yX11_startEdit ∈ zWS := zin_3 (i := 64) rfl rfl
theorem zw458 : Cond.instanceMethod yX11_startEdit ∈ zWS := zin_3 (i := 66) rfl rfl
theorem zw459 : Cond.selects RX11 yX11_startEdit yX11_startEdit ∈ zWS := zin_s (i := 16) rfl rfl
theorem zw460 : Cond.code yX11_startEdit cX11_startEdit 3 none ∈ zWS := zin_3 (i := 67) rfl rfl
theorem zw461 : Cond.fieldLink RX11 143 RX9 "word" "J" ∈ zWS := zin_1 (i := 119) rfl rfl
theorem zw462 : Cond.methodLink RX11 147 yX4_insertWord ∈ zWS := zin_3 (i := 191) rfl rfl
theorem zw463 : Cond.instanceMethod yX4_insertWord ∈ zWS := zin_3 (i := 192) rfl rfl
theorem zw464 : Cond.selects RX4 yX4_insertWord yX4_insertWord ∈ zWS := zin_3 (i := 193) rfl rfl
theorem zw465 : Cond.code yX4_insertWord cX4_insertWord 6 none ∈ zWS := zin_3 (i := 194) rfl rfl
theorem zw466 : Cond.methodLink RX11 151 yX11_endEdit ∈ zWS := zin_3 (i := 196) rfl rfl
theorem zw467 : Cond.instanceMethod yX11_endEdit ∈ zWS := zin_3 (i := 198) rfl rfl
theorem zw468 : Cond.selects RX11 yX11_endEdit yX11_endEdit ∈ zWS := zin_s (i := 24) rfl rfl
theorem zw469 : Cond.code yX11_endEdit cX11_endEdit 6 none ∈ zWS := zin_3 (i := 199) rfl rfl
theorem zw470 : Cond.methodLink RX11 155 yX4_replaceWord ∈ zWS := zin_3 (i := 214) rfl rfl
theorem zw471 : Cond.instanceMethod yX4_replaceWord ∈ zWS := zin_3 (i := 215) rfl rfl
theorem zw472 : Cond.selects RX4 yX4_replaceWord yX4_replaceWord ∈ zWS := zin_3 (i := 216) rfl rfl
theorem zw473 : Cond.code yX4_replaceWord cX4_replaceWord 4 none ∈ zWS := zin_3 (i := 217) rfl rfl
theorem zw474 : Cond.methodLink RX11 158 yX4_dropWord ∈ zWS := zin_3 (i := 222) rfl rfl
theorem zw475 : Cond.instanceMethod yX4_dropWord ∈ zWS := zin_3 (i := 223) rfl rfl
theorem zw476 : Cond.selects RX4 yX4_dropWord yX4_dropWord ∈ zWS := zin_3 (i := 224) rfl rfl
theorem zw477 : Cond.code yX4_dropWord cX4_dropWord 4 none ∈ zWS := zin_3 (i := 225) rfl rfl
theorem zw478 : Cond.fieldLink RX11 161 RX1 "came" "I" ∈ zWS := zin_1 (i := 214) rfl rfl
theorem zw479 : Cond.fieldLink RX11 164 RX1 "went" "I" ∈ zWS := zin_1 (i := 216) rfl rfl
theorem zw480 : Cond.fieldLink RX11 167 RX1 "first" "I" ∈ zWS := zin_1 (i := 218) rfl rfl
theorem zw481 : Cond.fieldLink RX11 170 RX9 "cause" "I" ∈ zWS := zin_1 (i := 111) rfl rfl
theorem zw482 : Cond.methodLink RX11 173 yX4_wordAt ∈ zWS := zin_4 (i := 6) rfl rfl
theorem zw483 : Cond.methodLink RX11 177 yX11_letterOrLength ∈ zWS := zin_4 (i := 7) rfl rfl
theorem zw484 : Cond.static yX11_letterOrLength ∈ zWS := zin_4 (i := 8) rfl rfl
theorem zw485 : Cond.code yX11_letterOrLength cX11_letterOrLength 4 (some .int) ∈ zWS := zin_4 (i := 9) rfl rfl
theorem zw486 : Cond.methodLink RX11 181 yX11_linkingOf ∈ zWS := zin_3 (i := 68) rfl rfl
theorem zw487 : Cond.instanceMethod yX11_linkingOf ∈ zWS := zin_3 (i := 70) rfl rfl
theorem zw488 : Cond.selects RX11 yX11_linkingOf yX11_linkingOf ∈ zWS := zin_s (i := 17) rfl rfl
theorem zw489 : Cond.code yX11_linkingOf cX11_linkingOf 3 (some (.object RX3)) ∈ zWS := zin_3 (i := 71) rfl rfl
theorem zw490 : Cond.fieldLink RX11 185 RX3 "size" "I" ∈ zWS := zin_2 (i := 46) rfl rfl
theorem zw491 : Cond.methodLink RX11 186 yX3_sectionAt ∈ zWS := zin_4 (i := 18) rfl rfl
theorem zw492 : Cond.methodLink RX11 190 yX3_reasonAt ∈ zWS := zin_4 (i := 19) rfl rfl
theorem zw493 : Cond.methodLink RX11 193 yX3_linkedSenseAt ∈ zWS := zin_4 (i := 20) rfl rfl
theorem zw494 : Cond.methodLink RX11 196 yX3_meantAt ∈ zWS := zin_4 (i := 21) rfl rfl
theorem zw495 : Cond.methodLink RX11 199 yX3_scoreAt ∈ zWS := zin_4 (i := 22) rfl rfl
theorem zw496 : Cond.instanceMethod yX3_scoreAt ∈ zWS := zin_4 (i := 23) rfl rfl
theorem zw497 : Cond.selects RX3 yX3_scoreAt yX3_scoreAt ∈ zWS := zin_4 (i := 24) rfl rfl
theorem zw498 : Cond.code yX3_scoreAt cX3_scoreAt 2 (some .int) ∈ zWS := zin_4 (i := 25) rfl rfl
theorem zw499 : Cond.methodLink RX11 202 yX3_levelAt ∈ zWS := zin_4 (i := 26) rfl rfl
theorem zw500 : Cond.methodLink RX11 205 yX3_linksAheadOf ∈ zWS := zin_4 (i := 27) rfl rfl
theorem zw501 : Cond.instanceMethod yX3_linksAheadOf ∈ zWS := zin_4 (i := 28) rfl rfl
theorem zw502 : Cond.selects RX3 yX3_linksAheadOf yX3_linksAheadOf ∈ zWS := zin_4 (i := 29) rfl rfl
theorem zw503 : Cond.code yX3_linksAheadOf cX3_linksAheadOf 4 (some .int) ∈ zWS := zin_4 (i := 30) rfl rfl
theorem zw504 : Cond.methodLink RX11 208 yX3_baseCountAt ∈ zWS := zin_4 (i := 31) rfl rfl
theorem zw505 : Cond.instanceMethod yX3_baseCountAt ∈ zWS := zin_4 (i := 32) rfl rfl
theorem zw506 : Cond.selects RX3 yX3_baseCountAt yX3_baseCountAt ∈ zWS := zin_4 (i := 33) rfl rfl
theorem zw507 : Cond.code yX3_baseCountAt cX3_baseCountAt 3 (some .int) ∈ zWS := zin_4 (i := 34) rfl rfl
theorem zw508 : Cond.methodLink RX11 211 yX3_basesAt ∈ zWS := zin_4 (i := 39) rfl rfl
theorem zw509 : Cond.fieldLink RX11 215 RX0 "size" "I" ∈ zWS := zin_2 (i := 27) rfl rfl
theorem zw510 : Cond.methodLink RX11 218 yX0_wordAt ∈ zWS := zin_4 (i := 40) rfl rfl
theorem zw511 : Cond.methodLink RX11 219 yX11_linkedOnPage ∈ zWS := zin_4 (i := 45) rfl rfl
theorem zw512 : Cond.instanceMethod yX11_linkedOnPage ∈ zWS := zin_4 (i := 47) rfl rfl
theorem zw513 : Cond.selects RX11 yX11_linkedOnPage yX11_linkedOnPage ∈ zWS := zin_s (i := 27) rfl rfl
theorem zw514 : Cond.code yX11_linkedOnPage cX11_linkedOnPage 4 (some .int) ∈ zWS := zin_4 (i := 48) rfl rfl
theorem zw515 : Cond.fieldLink RX11 223 RX7 "head" "J" ∈ zWS := zin_1 (i := 66) rfl rfl
theorem zw516 : Cond.methodLink RX11 228 yX10_lengthOf ∈ zWS := zin_4 (i := 10) rfl rfl
theorem zw517 : Cond.fieldLink RX11 234 RX7 "hintCount" "I" ∈ zWS := zin_1 (i := 71) rfl rfl
theorem zw518 : Cond.fieldLink RX11 237 RX7 "own" "I" ∈ zWS := zin_1 (i := 75) rfl rfl
theorem zw519 : Cond.methodLink RX11 240 yX11_linkedOnAllPages ∈ zWS := zin_4 (i := 53) rfl rfl
theorem zw520 : Cond.instanceMethod yX11_linkedOnAllPages ∈ zWS := zin_4 (i := 55) rfl rfl
theorem zw521 : Cond.selects RX11 yX11_linkedOnAllPages yX11_linkedOnAllPages ∈ zWS := zin_s (i := 28) rfl rfl
theorem zw522 : Cond.code yX11_linkedOnAllPages cX11_linkedOnAllPages 5 (some .int) ∈ zWS := zin_4 (i := 56) rfl rfl
theorem zw523 : Cond.methodLink RX11 243 yX11_meantOnAllPages ∈ zWS := zin_4 (i := 57) rfl rfl
theorem zw524 : Cond.instanceMethod yX11_meantOnAllPages ∈ zWS := zin_4 (i := 59) rfl rfl
theorem zw525 : Cond.selects RX11 yX11_meantOnAllPages yX11_meantOnAllPages ∈ zWS := zin_s (i := 29) rfl rfl
theorem zw526 : Cond.code yX11_meantOnAllPages cX11_meantOnAllPages 5 (some .int) ∈ zWS := zin_4 (i := 60) rfl rfl
theorem zw527 : Cond.methodLink RX11 246 yX3_wordsWithReason ∈ zWS := zin_4 (i := 69) rfl rfl
theorem zw528 : Cond.instanceMethod yX3_wordsWithReason ∈ zWS := zin_4 (i := 70) rfl rfl
theorem zw529 : Cond.selects RX3 yX3_wordsWithReason yX3_wordsWithReason ∈ zWS := zin_4 (i := 71) rfl rfl
theorem zw530 : Cond.code yX3_wordsWithReason cX3_wordsWithReason 4 (some .int) ∈ zWS := zin_4 (i := 72) rfl rfl
theorem zw531 : Cond.methodLink RX11 249 yX4_sectionCount ∈ zWS := zin_4 (i := 73) rfl rfl
theorem zw532 : Cond.instanceMethod yX4_sectionCount ∈ zWS := zin_4 (i := 74) rfl rfl
theorem zw533 : Cond.selects RX4 yX4_sectionCount yX4_sectionCount ∈ zWS := zin_4 (i := 75) rfl rfl
theorem zw534 : Cond.code yX4_sectionCount cX4_sectionCount 1 (some .int) ∈ zWS := zin_4 (i := 76) rfl rfl
theorem zw535 : Cond.methodLink RX11 253 yX3_enoughBudget ∈ zWS := zin_4 (i := 77) rfl rfl
theorem zw536 : Cond.instanceMethod yX3_enoughBudget ∈ zWS := zin_4 (i := 78) rfl rfl
theorem zw537 : Cond.selects RX3 yX3_enoughBudget yX3_enoughBudget ∈ zWS := zin_4 (i := 79) rfl rfl
theorem zw538 : Cond.code yX3_enoughBudget cX3_enoughBudget 1 (some .int) ∈ zWS := zin_4 (i := 80) rfl rfl
theorem zw539 : Cond.methodLink RX11 256 yX3_linkedWord ∈ zWS := zin_4 (i := 85) rfl rfl
theorem zw540 : Cond.instanceMethod yX3_linkedWord ∈ zWS := zin_4 (i := 86) rfl rfl
theorem zw541 : Cond.selects RX3 yX3_linkedWord yX3_linkedWord ∈ zWS := zin_4 (i := 87) rfl rfl
theorem zw542 : Cond.code yX3_linkedWord cX3_linkedWord 4 (some .int) ∈ zWS := zin_4 (i := 88) rfl rfl
theorem zw543 : Cond.methodLink RX11 259 yX3_firstOtherWithout ∈ zWS := zin_4 (i := 93) rfl rfl
theorem zw544 : Cond.instanceMethod yX3_firstOtherWithout ∈ zWS := zin_4 (i := 94) rfl rfl
theorem zw545 : Cond.selects RX3 yX3_firstOtherWithout yX3_firstOtherWithout ∈ zWS := zin_4 (i := 95) rfl rfl
theorem zw546 : Cond.code yX3_firstOtherWithout cX3_firstOtherWithout 3 (some .int) ∈ zWS := zin_4 (i := 96) rfl rfl
theorem zw547 : Cond.methodLink RX11 262 yX3_linksFromTheLast ∈ zWS := zin_4 (i := 101) rfl rfl
theorem zw548 : Cond.instanceMethod yX3_linksFromTheLast ∈ zWS := zin_4 (i := 102) rfl rfl
theorem zw549 : Cond.selects RX3 yX3_linksFromTheLast yX3_linksFromTheLast ∈ zWS := zin_4 (i := 103) rfl rfl
theorem zw550 : Cond.code yX3_linksFromTheLast cX3_linksFromTheLast 3 (some .int) ∈ zWS := zin_4 (i := 104) rfl rfl
theorem zw551 : Cond.fieldLink RX11 265 RX2 "size" "I" ∈ zWS := zin_1 (i := 195) rfl rfl
theorem zw552 : Cond.methodLink RX11 266 yX2_takeLatest ∈ zWS := zin_4 (i := 115) rfl rfl
theorem zw553 : Cond.instanceMethod yX2_takeLatest ∈ zWS := zin_4 (i := 116) rfl rfl
theorem zw554 : Cond.selects RX2 yX2_takeLatest yX2_takeLatest ∈ zWS := zin_4 (i := 117) rfl rfl
theorem zw555 : Cond.code yX2_takeLatest cX2_takeLatest 2 none ∈ zWS := zin_4 (i := 118) rfl rfl
theorem zw556 : Cond.methodLink RX11 270 yX11_forgetLinks ∈ zWS := zin_2 (i := 218) rfl rfl
theorem zw557 : Cond.instanceMethod yX11_forgetLinks ∈ zWS := zin_2 (i := 220) rfl rfl
theorem zw558 : Cond.selects RX11 yX11_forgetLinks yX11_forgetLinks ∈ zWS := zin_s (i := 12) rfl rfl
theorem zw559 : Cond.code yX11_forgetLinks cX11_forgetLinks 3 none ∈ zWS := zin_2 (i := 221) rfl rfl
theorem zw560 : Cond.methodLink RX11 273 yX8_copyFrom ∈ zWS := zin_4 (i := 123) rfl rfl
theorem zw561 : Cond.fieldLink RX11 276 RX11 "snapshotTaken" "Z" ∈ zWS := zin_2 (i := 83) rfl rfl
theorem zw562 : Cond.methodLink RX11 280 yX11_wordsOfAllPages ∈ zWS := zin_4 (i := 132) rfl rfl
theorem zw563 : Cond.instanceMethod yX11_wordsOfAllPages ∈ zWS := zin_4 (i := 134) rfl rfl
theorem zw564 : Cond.selects RX11 yX11_wordsOfAllPages yX11_wordsOfAllPages ∈ zWS := zin_s (i := 30) rfl rfl
theorem zw565 : Cond.code yX11_wordsOfAllPages cX11_wordsOfAllPages 4 (some .int) ∈ zWS := zin_4 (i := 135) rfl rfl
theorem zw566 : Cond.methodLink RX11 283 yX11_linksOfAllPages ∈ zWS := zin_4 (i := 136) rfl rfl
theorem zw567 : Cond.instanceMethod yX11_linksOfAllPages ∈ zWS := zin_4 (i := 138) rfl rfl
theorem zw568 : Cond.selects RX11 yX11_linksOfAllPages yX11_linksOfAllPages ∈ zWS := zin_s (i := 31) rfl rfl
theorem zw569 : Cond.code yX11_linksOfAllPages cX11_linksOfAllPages 4 (some .int) ∈ zWS := zin_4 (i := 139) rfl rfl
theorem zw570 : Cond.methodLink RX11 286 yX11_sensesWithoutLinks ∈ zWS := zin_4 (i := 140) rfl rfl
theorem zw571 : Cond.instanceMethod yX11_sensesWithoutLinks ∈ zWS := zin_4 (i := 142) rfl rfl
theorem zw572 : Cond.selects RX11 yX11_sensesWithoutLinks yX11_sensesWithoutLinks ∈ zWS := zin_s (i := 32) rfl rfl
theorem zw573 : Cond.code yX11_sensesWithoutLinks cX11_sensesWithoutLinks 4 (some .int) ∈ zWS := zin_4 (i := 143) rfl rfl
theorem zw574 : Cond.methodLink RX11 289 yX10_letterAt ∈ zWS := zin_4 (i := 11) rfl rfl
theorem zw575 : Cond.static yX10_letterAt ∈ zWS := zin_4 (i := 12) rfl rfl
theorem zw576 : Cond.code yX10_letterAt cX10_letterAt 4 (some .int) ∈ zWS := zin_4 (i := 13) rfl rfl
theorem zw577 : Cond.methodLink RX11 293 yX2_keep ∈ zWS := zin_2 (i := 177) rfl rfl
theorem zw578 : Cond.instanceMethod yX2_keep ∈ zWS := zin_2 (i := 178) rfl rfl
theorem zw579 : Cond.selects RX2 yX2_keep yX2_keep ∈ zWS := zin_2 (i := 179) rfl rfl
theorem zw580 : Cond.code yX2_keep cX2_keep 3 none ∈ zWS := zin_2 (i := 180) rfl rfl
theorem zw581 : Cond.fieldLink RX11 296 RX1 "before" "[I" ∈ zWS := zin_1 (i := 210) rfl rfl
theorem zw582 : Cond.methodLink RX11 300 yX3_copyLinkedSenses ∈ zWS := zin_3 (i := 179) rfl rfl
theorem zw583 : Cond.instanceMethod yX3_copyLinkedSenses ∈ zWS := zin_3 (i := 180) rfl rfl
theorem zw584 : Cond.selects RX3 yX3_copyLinkedSenses yX3_copyLinkedSenses ∈ zWS := zin_3 (i := 181) rfl rfl
theorem zw585 : Cond.code yX3_copyLinkedSenses cX3_copyLinkedSenses 3 none ∈ zWS := zin_3 (i := 182) rfl rfl
theorem zw586 : Cond.fieldLink RX11 304 RX1 "after" "[I" ∈ zWS := zin_1 (i := 212) rfl rfl
theorem zw587 : Cond.methodLink RX11 307 yX1_compare ∈ zWS := zin_3 (i := 200) rfl rfl
theorem zw588 : Cond.instanceMethod yX1_compare ∈ zWS := zin_3 (i := 201) rfl rfl
theorem zw589 : Cond.selects RX1 yX1_compare yX1_compare ∈ zWS := zin_3 (i := 202) rfl rfl
theorem zw590 : Cond.code yX1_compare cX1_compare 5 none ∈ zWS := zin_3 (i := 203) rfl rfl
theorem zw591 : Cond.fieldLink RX11 311 RX3 "fresh" "Z" ∈ zWS := zin_2 (i := 50) rfl rfl
theorem zw592 : Cond.methodLink RX11 314 yX3_followFrom ∈ zWS := zin_3 (i := 72) rfl rfl
theorem zw593 : Cond.instanceMethod yX3_followFrom ∈ zWS := zin_3 (i := 73) rfl rfl
theorem zw594 : Cond.selects RX3 yX3_followFrom yX3_followFrom ∈ zWS := zin_3 (i := 74) rfl rfl
theorem zw595 : Cond.code yX3_followFrom cX3_followFrom 6 none ∈ zWS := zin_3 (i := 75) rfl rfl
theorem zw596 : Cond.methodLink RX11 318 yX3_wordsLinkedTo ∈ zWS := zin_4 (i := 49) rfl rfl
theorem zw597 : Cond.instanceMethod yX3_wordsLinkedTo ∈ zWS := zin_4 (i := 50) rfl rfl
theorem zw598 : Cond.selects RX3 yX3_wordsLinkedTo yX3_wordsLinkedTo ∈ zWS := zin_4 (i := 51) rfl rfl
theorem zw599 : Cond.code yX3_wordsLinkedTo cX3_wordsLinkedTo 4 (some .int) ∈ zWS := zin_4 (i := 52) rfl rfl
theorem zw600 : Cond.methodLink RX11 321 yX3_wordsThatMean ∈ zWS := zin_4 (i := 61) rfl rfl
theorem zw601 : Cond.instanceMethod yX3_wordsThatMean ∈ zWS := zin_4 (i := 62) rfl rfl
theorem zw602 : Cond.selects RX3 yX3_wordsThatMean yX3_wordsThatMean ∈ zWS := zin_4 (i := 63) rfl rfl
theorem zw603 : Cond.code yX3_wordsThatMean cX3_wordsThatMean 4 (some .int) ∈ zWS := zin_4 (i := 64) rfl rfl
theorem zw604 : Cond.methodLink RX11 324 yX3_linkedSenses ∈ zWS := zin_4 (i := 144) rfl rfl
theorem zw605 : Cond.instanceMethod yX3_linkedSenses ∈ zWS := zin_4 (i := 145) rfl rfl
theorem zw606 : Cond.selects RX3 yX3_linkedSenses yX3_linkedSenses ∈ zWS := zin_4 (i := 146) rfl rfl
theorem zw607 : Cond.code yX3_linkedSenses cX3_linkedSenses 3 (some .int) ∈ zWS := zin_4 (i := 147) rfl rfl
theorem zw608 : Cond.methodLink RX12 1 objectInit ∈ zWS := zin_4 (i := 153) rfl rfl
theorem zw609 : Cond.fieldLink RX12 9 RX12 "all" "[I" ∈ zWS := zin_4 (i := 154) rfl rfl
theorem zw610 : Cond.fieldLink RX12 13 RX12 "tape" "[I" ∈ zWS := zin_4 (i := 157) rfl rfl
theorem zw611 : Cond.fieldLink RX12 16 RX12 "read" "[I" ∈ zWS := zin_4 (i := 163) rfl rfl
theorem zw612 : Cond.fieldLink RX12 19 RX12 "parts" "[I" ∈ zWS := zin_4 (i := 165) rfl rfl
theorem zw613 : Cond.fieldLink RX12 22 RX12 "baseMany" "[I" ∈ zWS := zin_4 (i := 166) rfl rfl
theorem zw614 : Cond.fieldLink RX12 25 RX12 "deep" "[I" ∈ zWS := zin_4 (i := 167) rfl rfl
theorem zw615 : Cond.fieldLink RX12 28 RX12 "longs" "[I" ∈ zWS := zin_4 (i := 168) rfl rfl
theorem zw616 : Cond.fieldLink RX12 31 RX12 "chars" "[I" ∈ zWS := zin_4 (i := 169) rfl rfl
theorem zw617 : Cond.fieldLink RX12 34 RX12 "once" "[I" ∈ zWS := zin_4 (i := 170) rfl rfl
theorem zw618 : Cond.fieldLink RX12 37 RX12 "twice" "[I" ∈ zWS := zin_4 (i := 171) rfl rfl
theorem zw619 : Cond.fieldLink RX12 40 RX12 "headBase" "[I" ∈ zWS := zin_4 (i := 172) rfl rfl
theorem zw620 : Cond.fieldLink RX12 43 RX12 "meant" "[I" ∈ zWS := zin_4 (i := 173) rfl rfl
theorem zw621 : Cond.fieldLink RX12 46 RX12 "scores" "[I" ∈ zWS := zin_4 (i := 174) rfl rfl
theorem zw622 : Cond.fieldLink RX12 49 RX12 "reasons" "[I" ∈ zWS := zin_4 (i := 175) rfl rfl
theorem zw623 : Cond.fieldLink RX12 52 RX12 "linksWere" "[I" ∈ zWS := zin_4 (i := 177) rfl rfl
theorem zw624 : Cond.fieldLink RX12 55 RX12 "reasonsWere" "[I" ∈ zWS := zin_4 (i := 182) rfl rfl
theorem zw625 : Cond.fieldLink RX12 58 RX12 "changes" "I" ∈ zWS := zin_4 (i := 155) rfl rfl
theorem zw626 : Cond.methodLink RX12 62 yX12_copies ∈ zWS := zin_5 (i := 64) rfl rfl
theorem zw627 : Cond.instanceMethod yX12_copies ∈ zWS := zin_5 (i := 66) rfl rfl
theorem zw628 : Cond.selects RX12 yX12_copies yX12_copies ∈ zWS := zin_s (i := 45) rfl rfl
theorem zw629 : Cond.initialized RX12 ∈ zWS := zin_1 (i := 12) rfl rfl
theorem zw630 : Cond.code yX12_copies cX12_copies 4 none ∈ zWS := zin_5 (i := 67) rfl rfl
theorem zw631 : Cond.methodLink RX12 66 yX12_in ∈ zWS := zin_5 (i := 6) rfl rfl
theorem zw632 : Cond.static yX12_in ∈ zWS := zin_5 (i := 7) rfl rfl
theorem zw633 : Cond.code yX12_in cX12_in 3 (some .boolean) ∈ zWS := zin_5 (i := 8) rfl rfl
theorem zw634 : Cond.methodLink RX12 70 yX12_isPage ∈ zWS := zin_5 (i := 13) rfl rfl
theorem zw635 : Cond.static yX12_isPage ∈ zWS := zin_5 (i := 14) rfl rfl
theorem zw636 : Cond.code yX12_isPage cX12_isPage 1 (some .boolean) ∈ zWS := zin_5 (i := 15) rfl rfl
theorem zw637 : Cond.methodLink RX12 74 yX12_words ∈ zWS := zin_5 (i := 117) rfl rfl
theorem zw638 : Cond.instanceMethod yX12_words ∈ zWS := zin_5 (i := 119) rfl rfl
theorem zw639 : Cond.selects RX12 yX12_words yX12_words ∈ zWS := zin_s (i := 49) rfl rfl
theorem zw640 : Cond.code yX12_words cX12_words 2 (some .int) ∈ zWS := zin_5 (i := 120) rfl rfl
theorem zw641 : Cond.methodLink RX12 78 yX12_wordAt ∈ zWS := zin_5 (i := 68) rfl rfl
theorem zw642 : Cond.static yX12_wordAt ∈ zWS := zin_5 (i := 69) rfl rfl
theorem zw643 : Cond.code yX12_wordAt cX12_wordAt 2 (some .int) ∈ zWS := zin_5 (i := 70) rfl rfl
theorem zw644 : Cond.methodLink RX12 82 yX12_sectionOf ∈ zWS := zin_5 (i := 169) rfl rfl
theorem zw645 : Cond.instanceMethod yX12_sectionOf ∈ zWS := zin_5 (i := 171) rfl rfl
theorem zw646 : Cond.selects RX12 yX12_sectionOf yX12_sectionOf ∈ zWS := zin_s (i := 62) rfl rfl
theorem zw647 : Cond.code yX12_sectionOf cX12_sectionOf 3 (some .int) ∈ zWS := zin_5 (i := 172) rfl rfl
theorem zw648 : Cond.methodLink RX12 85 yX12_senseAt ∈ zWS := zin_5 (i := 79) rfl rfl
theorem zw649 : Cond.static yX12_senseAt ∈ zWS := zin_5 (i := 80) rfl rfl
theorem zw650 : Cond.code yX12_senseAt cX12_senseAt 1 (some .int) ∈ zWS := zin_5 (i := 81) rfl rfl
theorem zw651 : Cond.fieldLink RX12 88 RX12 "taped" "I" ∈ zWS := zin_4 (i := 158) rfl rfl
theorem zw652 : Cond.fieldLink RX12 91 RX12 "at" "I" ∈ zWS := zin_4 (i := 159) rfl rfl
theorem zw653 : Cond.methodLink RX12 94 yX12_here ∈ zWS := zin_5 (i := 32) rfl rfl
theorem zw654 : Cond.instanceMethod yX12_here ∈ zWS := zin_5 (i := 34) rfl rfl
theorem zw655 : Cond.selects RX12 yX12_here yX12_here ∈ zWS := zin_s (i := 37) rfl rfl
theorem zw656 : Cond.code yX12_here cX12_here 1 (some .int) ∈ zWS := zin_5 (i := 35) rfl rfl
theorem zw657 : Cond.fieldLink RX12 98 RX12 "fault" "I" ∈ zWS := zin_4 (i := 160) rfl rfl
theorem zw658 : Cond.fieldLink RX12 101 RX12 "why" "I" ∈ zWS := zin_4 (i := 161) rfl rfl
theorem zw659 : Cond.methodLink RX12 104 yX12_isNext ∈ zWS := zin_5 (i := 52) rfl rfl
theorem zw660 : Cond.instanceMethod yX12_isNext ∈ zWS := zin_5 (i := 54) rfl rfl
theorem zw661 : Cond.selects RX12 yX12_isNext yX12_isNext ∈ zWS := zin_s (i := 42) rfl rfl
theorem zw662 : Cond.code yX12_isNext cX12_isNext 2 (some .boolean) ∈ zWS := zin_5 (i := 55) rfl rfl
theorem zw663 : Cond.methodLink RX12 107 yX12_fails ∈ zWS := zin_5 (i := 36) rfl rfl
theorem zw664 : Cond.instanceMethod yX12_fails ∈ zWS := zin_5 (i := 38) rfl rfl
theorem zw665 : Cond.selects RX12 yX12_fails yX12_fails ∈ zWS := zin_s (i := 38) rfl rfl
theorem zw666 : Cond.code yX12_fails cX12_fails 2 none ∈ zWS := zin_5 (i := 39) rfl rfl
theorem zw667 : Cond.methodLink RX12 111 yX12_isLetter ∈ zWS := zin_5 (i := 28) rfl rfl
theorem zw668 : Cond.instanceMethod yX12_isLetter ∈ zWS := zin_5 (i := 30) rfl rfl
theorem zw669 : Cond.selects RX12 yX12_isLetter yX12_isLetter ∈ zWS := zin_s (i := 36) rfl rfl
theorem zw670 : Cond.code yX12_isLetter cX12_isLetter 1 (some .boolean) ∈ zWS := zin_5 (i := 31) rfl rfl
theorem zw671 : Cond.methodLink RX12 115 yX12_letters ∈ zWS := zin_5 (i := 44) rfl rfl
theorem zw672 : Cond.instanceMethod yX12_letters ∈ zWS := zin_5 (i := 46) rfl rfl
theorem zw673 : Cond.selects RX12 yX12_letters yX12_letters ∈ zWS := zin_s (i := 40) rfl rfl
theorem zw674 : Cond.code yX12_letters cX12_letters 5 (some .int) ∈ zWS := zin_5 (i := 47) rfl rfl
theorem zw675 : Cond.fieldLink RX12 119 RX12 "readMany" "I" ∈ zWS := zin_4 (i := 164) rfl rfl
theorem zw676 : Cond.fieldLink RX12 122 RX12 "latestCause" "I" ∈ zWS := zin_4 (i := 162) rfl rfl
theorem zw677 : Cond.methodLink RX12 125 yX12_word ∈ zWS := zin_5 (i := 40) rfl rfl
theorem zw678 : Cond.instanceMethod yX12_word ∈ zWS := zin_5 (i := 42) rfl rfl
theorem zw679 : Cond.selects RX12 yX12_word yX12_word ∈ zWS := zin_s (i := 39) rfl rfl
theorem zw680 : Cond.code yX12_word cX12_word 3 none ∈ zWS := zin_5 (i := 43) rfl rfl
theorem zw681 : Cond.methodLink RX12 129 yX12_readsWord ∈ zWS := zin_5 (i := 24) rfl rfl
theorem zw682 : Cond.instanceMethod yX12_readsWord ∈ zWS := zin_5 (i := 26) rfl rfl
theorem zw683 : Cond.selects RX12 yX12_readsWord yX12_readsWord ∈ zWS := zin_s (i := 35) rfl rfl
theorem zw684 : Cond.code yX12_readsWord cX12_readsWord 3 none ∈ zWS := zin_5 (i := 27) rfl rfl
theorem zw685 : Cond.methodLink RX12 132 yX12_wants ∈ zWS := zin_5 (i := 48) rfl rfl
theorem zw686 : Cond.instanceMethod yX12_wants ∈ zWS := zin_5 (i := 50) rfl rfl
theorem zw687 : Cond.selects RX12 yX12_wants yX12_wants ∈ zWS := zin_s (i := 41) rfl rfl
theorem zw688 : Cond.code yX12_wants cX12_wants 2 none ∈ zWS := zin_5 (i := 51) rfl rfl
theorem zw689 : Cond.methodLink RX12 135 yX12_begins ∈ zWS := zin_5 (i := 16) rfl rfl
theorem zw690 : Cond.instanceMethod yX12_begins ∈ zWS := zin_5 (i := 18) rfl rfl
theorem zw691 : Cond.selects RX12 yX12_begins yX12_begins ∈ zWS := zin_s (i := 33) rfl rfl
theorem zw692 : Cond.code yX12_begins cX12_begins 1 none ∈ zWS := zin_5 (i := 19) rfl rfl
theorem zw693 : Cond.methodLink RX12 138 yX12_readsPage ∈ zWS := zin_5 (i := 20) rfl rfl
theorem zw694 : Cond.instanceMethod yX12_readsPage ∈ zWS := zin_5 (i := 22) rfl rfl
theorem zw695 : Cond.selects RX12 yX12_readsPage yX12_readsPage ∈ zWS := zin_s (i := 34) rfl rfl
theorem zw696 : Cond.code yX12_readsPage cX12_readsPage 2 none ∈ zWS := zin_5 (i := 23) rfl rfl
theorem zw697 : Cond.methodLink RX12 141 yX12_isWrong ∈ zWS := zin_5 (i := 56) rfl rfl
theorem zw698 : Cond.instanceMethod yX12_isWrong ∈ zWS := zin_5 (i := 58) rfl rfl
theorem zw699 : Cond.selects RX12 yX12_isWrong yX12_isWrong ∈ zWS := zin_s (i := 43) rfl rfl
theorem zw700 : Cond.code yX12_isWrong cX12_isWrong 1 (some .boolean) ∈ zWS := zin_5 (i := 59) rfl rfl
theorem zw701 : Cond.methodLink RX12 144 yX12_keeps ∈ zWS := zin_5 (i := 60) rfl rfl
theorem zw702 : Cond.instanceMethod yX12_keeps ∈ zWS := zin_5 (i := 62) rfl rfl
theorem zw703 : Cond.selects RX12 yX12_keeps yX12_keeps ∈ zWS := zin_s (i := 44) rfl rfl
theorem zw704 : Cond.code yX12_keeps cX12_keeps 2 none ∈ zWS := zin_5 (i := 63) rfl rfl
theorem zw705 : Cond.methodLink RX12 147 yX12_senses ∈ zWS := zin_5 (i := 75) rfl rfl
theorem zw706 : Cond.instanceMethod yX12_senses ∈ zWS := zin_5 (i := 77) rfl rfl
theorem zw707 : Cond.selects RX12 yX12_senses yX12_senses ∈ zWS := zin_s (i := 46) rfl rfl
theorem zw708 : Cond.code yX12_senses cX12_senses 1 (some .int) ∈ zWS := zin_5 (i := 78) rfl rfl
theorem zw709 : Cond.methodLink RX12 150 yX12_rules ∈ zWS := zin_5 (i := 86) rfl rfl
theorem zw710 : Cond.instanceMethod yX12_rules ∈ zWS := zin_5 (i := 88) rfl rfl
theorem zw711 : Cond.selects RX12 yX12_rules yX12_rules ∈ zWS := zin_s (i := 47) rfl rfl
theorem zw712 : Cond.code yX12_rules cX12_rules 1 (some .int) ∈ zWS := zin_5 (i := 89) rfl rfl
theorem zw713 : Cond.methodLink RX12 153 yX12_ruleAt ∈ zWS := zin_5 (i := 90) rfl rfl
theorem zw714 : Cond.static yX12_ruleAt ∈ zWS := zin_5 (i := 91) rfl rfl
theorem zw715 : Cond.code yX12_ruleAt cX12_ruleAt 1 (some .int) ∈ zWS := zin_5 (i := 92) rfl rfl
theorem zw716 : Cond.methodLink RX12 156 yX12_budgetOf ∈ zWS := zin_5 (i := 109) rfl rfl
theorem zw717 : Cond.instanceMethod yX12_budgetOf ∈ zWS := zin_5 (i := 111) rfl rfl
theorem zw718 : Cond.selects RX12 yX12_budgetOf yX12_budgetOf ∈ zWS := zin_s (i := 48) rfl rfl
theorem zw719 : Cond.code yX12_budgetOf cX12_budgetOf 2 (some .int) ∈ zWS := zin_5 (i := 112) rfl rfl
theorem zw720 : Cond.methodLink RX12 159 yX12_isBase ∈ zWS := zin_5 (i := 145) rfl rfl
theorem zw721 : Cond.instanceMethod yX12_isBase ∈ zWS := zin_5 (i := 147) rfl rfl
theorem zw722 : Cond.selects RX12 yX12_isBase yX12_isBase ∈ zWS := zin_s (i := 56) rfl rfl
theorem zw723 : Cond.code yX12_isBase cX12_isBase 8 (some .boolean) ∈ zWS := zin_5 (i := 148) rfl rfl
theorem zw724 : Cond.methodLink RX12 163 yX12_lays ∈ zWS := zin_5 (i := 141) rfl rfl
theorem zw725 : Cond.instanceMethod yX12_lays ∈ zWS := zin_5 (i := 143) rfl rfl
theorem zw726 : Cond.selects RX12 yX12_lays yX12_lays ∈ zWS := zin_s (i := 55) rfl rfl
theorem zw727 : Cond.code yX12_lays cX12_lays 8 none ∈ zWS := zin_5 (i := 144) rfl rfl
theorem zw728 : Cond.methodLink RX12 167 yX12_applies ∈ zWS := zin_5 (i := 149) rfl rfl
theorem zw729 : Cond.instanceMethod yX12_applies ∈ zWS := zin_5 (i := 151) rfl rfl
theorem zw730 : Cond.selects RX12 yX12_applies yX12_applies ∈ zWS := zin_s (i := 57) rfl rfl
theorem zw731 : Cond.code yX12_applies cX12_applies 10 (some .int) ∈ zWS := zin_5 (i := 152) rfl rfl
theorem zw732 : Cond.methodLink RX12 171 yX12_hints ∈ zWS := zin_5 (i := 165) rfl rfl
theorem zw733 : Cond.instanceMethod yX12_hints ∈ zWS := zin_5 (i := 167) rfl rfl
theorem zw734 : Cond.selects RX12 yX12_hints yX12_hints ∈ zWS := zin_s (i := 61) rfl rfl
theorem zw735 : Cond.code yX12_hints cX12_hints 2 (some .int) ∈ zWS := zin_5 (i := 168) rfl rfl
theorem zw736 : Cond.methodLink RX12 174 yX12_hintAt ∈ zWS := zin_5 (i := 173) rfl rfl
theorem zw737 : Cond.static yX12_hintAt ∈ zWS := zin_5 (i := 174) rfl rfl
theorem zw738 : Cond.code yX12_hintAt cX12_hintAt 2 (some .int) ∈ zWS := zin_5 (i := 175) rfl rfl
theorem zw739 : Cond.methodLink RX12 177 yX12_isHead ∈ zWS := zin_5 (i := 157) rfl rfl
theorem zw740 : Cond.instanceMethod yX12_isHead ∈ zWS := zin_5 (i := 159) rfl rfl
theorem zw741 : Cond.selects RX12 yX12_isHead yX12_isHead ∈ zWS := zin_s (i := 59) rfl rfl
theorem zw742 : Cond.code yX12_isHead cX12_isHead 4 (some .boolean) ∈ zWS := zin_5 (i := 160) rfl rfl
theorem zw743 : Cond.methodLink RX12 180 yX12_score ∈ zWS := zin_5 (i := 161) rfl rfl
theorem zw744 : Cond.instanceMethod yX12_score ∈ zWS := zin_5 (i := 163) rfl rfl
theorem zw745 : Cond.selects RX12 yX12_score yX12_score ∈ zWS := zin_s (i := 60) rfl rfl
theorem zw746 : Cond.code yX12_score cX12_score 9 (some .int) ∈ zWS := zin_5 (i := 164) rfl rfl
theorem zw747 : Cond.methodLink RX12 184 yX12_own ∈ zWS := zin_5 (i := 180) rfl rfl
theorem zw748 : Cond.instanceMethod yX12_own ∈ zWS := zin_5 (i := 182) rfl rfl
theorem zw749 : Cond.selects RX12 yX12_own yX12_own ∈ zWS := zin_s (i := 64) rfl rfl
theorem zw750 : Cond.code yX12_own cX12_own 2 (some .int) ∈ zWS := zin_5 (i := 183) rfl rfl
theorem zw751 : Cond.fieldLink RX12 187 RX12 "linked" "I" ∈ zWS := zin_4 (i := 176) rfl rfl
theorem zw752 : Cond.methodLink RX12 190 yX12_bases ∈ zWS := zin_5 (i := 137) rfl rfl
theorem zw753 : Cond.instanceMethod yX12_bases ∈ zWS := zin_5 (i := 139) rfl rfl
theorem zw754 : Cond.selects RX12 yX12_bases yX12_bases ∈ zWS := zin_s (i := 54) rfl rfl
theorem zw755 : Cond.code yX12_bases cX12_bases 9 none ∈ zWS := zin_5 (i := 140) rfl rfl
theorem zw756 : Cond.methodLink RX12 193 yX12_means ∈ zWS := zin_5 (i := 153) rfl rfl
theorem zw757 : Cond.instanceMethod yX12_means ∈ zWS := zin_5 (i := 155) rfl rfl
theorem zw758 : Cond.selects RX12 yX12_means yX12_means ∈ zWS := zin_s (i := 58) rfl rfl
theorem zw759 : Cond.code yX12_means cX12_means 6 none ∈ zWS := zin_5 (i := 156) rfl rfl
theorem zw760 : Cond.methodLink RX12 196 yX12_reason ∈ zWS := zin_5 (i := 176) rfl rfl
theorem zw761 : Cond.instanceMethod yX12_reason ∈ zWS := zin_5 (i := 178) rfl rfl
theorem zw762 : Cond.selects RX12 yX12_reason yX12_reason ∈ zWS := zin_s (i := 63) rfl rfl
theorem zw763 : Cond.code yX12_reason cX12_reason 6 (some .int) ∈ zWS := zin_5 (i := 179) rfl rfl
theorem zw764 : Cond.methodLink RX12 200 yX12_links ∈ zWS := zin_5 (i := 133) rfl rfl
theorem zw765 : Cond.instanceMethod yX12_links ∈ zWS := zin_5 (i := 135) rfl rfl
theorem zw766 : Cond.selects RX12 yX12_links yX12_links ∈ zWS := zin_s (i := 53) rfl rfl
theorem zw767 : Cond.code yX12_links cX12_links 6 none ∈ zWS := zin_5 (i := 136) rfl rfl
theorem zw768 : Cond.methodLink RX12 204 yX12_links_ ∈ zWS := zin_5 (i := 129) rfl rfl
theorem zw769 : Cond.instanceMethod yX12_links_ ∈ zWS := zin_5 (i := 131) rfl rfl
theorem zw770 : Cond.selects RX12 yX12_links_ yX12_links_ ∈ zWS := zin_s (i := 52) rfl rfl
theorem zw771 : Cond.code yX12_links_ cX12_links_ 2 none ∈ zWS := zin_5 (i := 132) rfl rfl
theorem zw772 : Cond.methodLink RX12 206 yX12_linkOf ∈ zWS := zin_5 (i := 184) rfl rfl
theorem zw773 : Cond.instanceMethod yX12_linkOf ∈ zWS := zin_5 (i := 186) rfl rfl
theorem zw774 : Cond.selects RX12 yX12_linkOf yX12_linkOf ∈ zWS := zin_s (i := 65) rfl rfl
theorem zw775 : Cond.code yX12_linkOf cX12_linkOf 2 (some .int) ∈ zWS := zin_5 (i := 187) rfl rfl
theorem zw776 : Cond.fieldLink RX12 209 RX12 "hasEdited" "Z" ∈ zWS := zin_4 (i := 178) rfl rfl
theorem zw777 : Cond.fieldLink RX12 213 RX12 "came" "I" ∈ zWS := zin_4 (i := 179) rfl rfl
theorem zw778 : Cond.fieldLink RX12 216 RX12 "went" "I" ∈ zWS := zin_4 (i := 180) rfl rfl
theorem zw779 : Cond.fieldLink RX12 219 RX12 "firstCame" "I" ∈ zWS := zin_4 (i := 181) rfl rfl
theorem zw780 : Cond.methodLink RX12 222 yX12_isOneWord ∈ zWS := zin_5 (i := 121) rfl rfl
theorem zw781 : Cond.instanceMethod yX12_isOneWord ∈ zWS := zin_5 (i := 123) rfl rfl
theorem zw782 : Cond.selects RX12 yX12_isOneWord yX12_isOneWord ∈ zWS := zin_s (i := 50) rfl rfl
theorem zw783 : Cond.code yX12_isOneWord cX12_isOneWord 1 (some .boolean) ∈ zWS := zin_5 (i := 124) rfl rfl
theorem zw784 : Cond.methodLink RX12 225 yX12_begins_ ∈ zWS := zin_5 (i := 125) rfl rfl
theorem zw785 : Cond.instanceMethod yX12_begins_ ∈ zWS := zin_5 (i := 127) rfl rfl
theorem zw786 : Cond.selects RX12 yX12_begins_ yX12_begins_ ∈ zWS := zin_s (i := 51) rfl rfl
theorem zw787 : Cond.code yX12_begins_ cX12_begins_ 3 (some .int) ∈ zWS := zin_5 (i := 128) rfl rfl
theorem zw788 : Cond.methodLink RX12 227 yX12_puts ∈ zWS := zin_5 (i := 188) rfl rfl
theorem zw789 : Cond.instanceMethod yX12_puts ∈ zWS := zin_5 (i := 190) rfl rfl
theorem zw790 : Cond.selects RX12 yX12_puts yX12_puts ∈ zWS := zin_s (i := 66) rfl rfl
theorem zw791 : Cond.code yX12_puts cX12_puts 5 none ∈ zWS := zin_5 (i := 191) rfl rfl
theorem zw792 : Cond.methodLink RX12 230 yX12_tells ∈ zWS := zin_5 (i := 192) rfl rfl
theorem zw793 : Cond.instanceMethod yX12_tells ∈ zWS := zin_5 (i := 194) rfl rfl
theorem zw794 : Cond.selects RX12 yX12_tells yX12_tells ∈ zWS := zin_s (i := 67) rfl rfl
theorem zw795 : Cond.code yX12_tells cX12_tells 9 none ∈ zWS := zin_5 (i := 195) rfl rfl
theorem zw796 : Cond.methodLink RX12 234 yX12_isWord ∈ zWS := zin_5 (i := 200) rfl rfl
theorem zw797 : Cond.instanceMethod yX12_isWord ∈ zWS := zin_5 (i := 202) rfl rfl
theorem zw798 : Cond.selects RX12 yX12_isWord yX12_isWord ∈ zWS := zin_s (i := 68) rfl rfl
theorem zw799 : Cond.code yX12_isWord cX12_isWord 3 (some .boolean) ∈ zWS := zin_5 (i := 203) rfl rfl
theorem zw800 : Cond.methodLink RX12 238 yX12_sections ∈ zWS := zin_5 (i := 236) rfl rfl
theorem zw801 : Cond.instanceMethod yX12_sections ∈ zWS := zin_5 (i := 238) rfl rfl
theorem zw802 : Cond.selects RX12 yX12_sections yX12_sections ∈ zWS := zin_s (i := 69) rfl rfl
theorem zw803 : Cond.code yX12_sections cX12_sections 2 (some .int) ∈ zWS := zin_5 (i := 239) rfl rfl
theorem zw804 : Cond.methodLink RX12 241 yX12_reasonsOf ∈ zWS := zin_6 (i := 0) rfl rfl
theorem zw805 : Cond.instanceMethod yX12_reasonsOf ∈ zWS := zin_6 (i := 2) rfl rfl
theorem zw806 : Cond.selects RX12 yX12_reasonsOf yX12_reasonsOf ∈ zWS := zin_s (i := 70) rfl rfl
theorem zw807 : Cond.code yX12_reasonsOf cX12_reasonsOf 5 (some .int) ∈ zWS := zin_6 (i := 3) rfl rfl
theorem zw808 : Cond.methodLink RX12 244 yX12_linkAt ∈ zWS := zin_6 (i := 8) rfl rfl
theorem zw809 : Cond.instanceMethod yX12_linkAt ∈ zWS := zin_6 (i := 10) rfl rfl
theorem zw810 : Cond.selects RX12 yX12_linkAt yX12_linkAt ∈ zWS := zin_s (i := 71) rfl rfl
theorem zw811 : Cond.code yX12_linkAt cX12_linkAt 5 (some .int) ∈ zWS := zin_6 (i := 11) rfl rfl
theorem zw812 : Cond.fieldLink RX12 247 RX12 "isSaved" "Z" ∈ zWS := zin_4 (i := 156) rfl rfl
theorem zw813 : Cond.classLink RL 7 RX11 ∈ zWS := zin_1 (i := 16) rfl rfl
theorem zw814 : Cond.instantiable RX11 7 ∈ zWS := zin_1 (i := 17) rfl rfl
theorem zw815 : Cond.methodLink RL 9 yX11_init ∈ zWS := zin_1 (i := 18) rfl rfl
theorem zw816 : Cond.instanceMethod yX11_init ∈ zWS := zin_1 (i := 19) rfl rfl
theorem zw817 : Cond.code yX11_init cX11_init 2 none ∈ zWS := zin_1 (i := 20) rfl rfl
theorem zw818 : Cond.classLink RL 10 RX12 ∈ zWS := zin_4 (i := 148) rfl rfl
theorem zw819 : Cond.instantiable RX12 29 ∈ zWS := zin_4 (i := 149) rfl rfl
theorem zw820 : Cond.methodLink RL 12 yX12_init ∈ zWS := zin_4 (i := 150) rfl rfl
theorem zw821 : Cond.instanceMethod yX12_init ∈ zWS := zin_4 (i := 151) rfl rfl
theorem zw822 : Cond.code yX12_init cX12_init 2 none ∈ zWS := zin_4 (i := 152) rfl rfl
theorem zw823 : Cond.methodLink RL 13 yX11_feed ∈ zWS := zin_2 (i := 102) rfl rfl
theorem zw824 : Cond.instanceMethod yX11_feed ∈ zWS := zin_2 (i := 103) rfl rfl
theorem zw825 : Cond.selects RX11 yX11_feed yX11_feed ∈ zWS := zin_2 (i := 104) rfl rfl
theorem zw826 : Cond.code yX11_feed cX11_feed 7 (some .int) ∈ zWS := zin_2 (i := 105) rfl rfl
theorem zw827 : Cond.methodLink RL 17 yX12_feed ∈ zWS := zin_5 (i := 2) rfl rfl
theorem zw828 : Cond.instanceMethod yX12_feed ∈ zWS := zin_5 (i := 3) rfl rfl
theorem zw829 : Cond.selects RX12 yX12_feed yX12_feed ∈ zWS := zin_5 (i := 4) rfl rfl
theorem zw830 : Cond.code yX12_feed cX12_feed 8 (some .int) ∈ zWS := zin_5 (i := 5) rfl rfl
theorem zw831 : Cond.methodLink RL 18 yX11_page ∈ zWS := zin_2 (i := 113) rfl rfl
theorem zw832 : Cond.instanceMethod yX11_page ∈ zWS := zin_2 (i := 114) rfl rfl
theorem zw833 : Cond.selects RX11 yX11_page yX11_page ∈ zWS := zin_2 (i := 115) rfl rfl
theorem zw834 : Cond.code yX11_page cX11_page 3 (some .int) ∈ zWS := zin_2 (i := 116) rfl rfl
theorem zw835 : Cond.methodLink RL 22 yX12_page ∈ zWS := zin_5 (i := 9) rfl rfl
theorem zw836 : Cond.instanceMethod yX12_page ∈ zWS := zin_5 (i := 10) rfl rfl
theorem zw837 : Cond.selects RX12 yX12_page yX12_page ∈ zWS := zin_5 (i := 11) rfl rfl
theorem zw838 : Cond.code yX12_page cX12_page 3 (some .int) ∈ zWS := zin_5 (i := 12) rfl rfl
theorem zw839 : Cond.methodLink RL 23 yX11_sense ∈ zWS := zin_2 (i := 223) rfl rfl
theorem zw840 : Cond.instanceMethod yX11_sense ∈ zWS := zin_2 (i := 224) rfl rfl
theorem zw841 : Cond.selects RX11 yX11_sense yX11_sense ∈ zWS := zin_2 (i := 225) rfl rfl
theorem zw842 : Cond.code yX11_sense cX11_sense 1 (some .int) ∈ zWS := zin_2 (i := 226) rfl rfl
theorem zw843 : Cond.methodLink RL 27 yX12_sense ∈ zWS := zin_5 (i := 71) rfl rfl
theorem zw844 : Cond.instanceMethod yX12_sense ∈ zWS := zin_5 (i := 72) rfl rfl
theorem zw845 : Cond.selects RX12 yX12_sense yX12_sense ∈ zWS := zin_5 (i := 73) rfl rfl
theorem zw846 : Cond.code yX12_sense cX12_sense 3 (some .int) ∈ zWS := zin_5 (i := 74) rfl rfl
theorem zw847 : Cond.methodLink RL 28 yX11_rule ∈ zWS := zin_3 (i := 11) rfl rfl
theorem zw848 : Cond.instanceMethod yX11_rule ∈ zWS := zin_3 (i := 12) rfl rfl
theorem zw849 : Cond.selects RX11 yX11_rule yX11_rule ∈ zWS := zin_3 (i := 13) rfl rfl
theorem zw850 : Cond.code yX11_rule cX11_rule 1 (some .int) ∈ zWS := zin_3 (i := 14) rfl rfl
theorem zw851 : Cond.methodLink RL 31 yX12_rule ∈ zWS := zin_5 (i := 82) rfl rfl
theorem zw852 : Cond.instanceMethod yX12_rule ∈ zWS := zin_5 (i := 83) rfl rfl
theorem zw853 : Cond.selects RX12 yX12_rule yX12_rule ∈ zWS := zin_5 (i := 84) rfl rfl
theorem zw854 : Cond.code yX12_rule cX12_rule 2 (some .int) ∈ zWS := zin_5 (i := 85) rfl rfl
theorem zw855 : Cond.methodLink RL 32 yX11_removeSense ∈ zWS := zin_3 (i := 30) rfl rfl
theorem zw856 : Cond.instanceMethod yX11_removeSense ∈ zWS := zin_3 (i := 31) rfl rfl
theorem zw857 : Cond.selects RX11 yX11_removeSense yX11_removeSense ∈ zWS := zin_3 (i := 32) rfl rfl
theorem zw858 : Cond.code yX11_removeSense cX11_removeSense 2 (some .int) ∈ zWS := zin_3 (i := 33) rfl rfl
theorem zw859 : Cond.methodLink RL 35 yX12_removeSense ∈ zWS := zin_5 (i := 93) rfl rfl
theorem zw860 : Cond.instanceMethod yX12_removeSense ∈ zWS := zin_5 (i := 94) rfl rfl
theorem zw861 : Cond.selects RX12 yX12_removeSense yX12_removeSense ∈ zWS := zin_5 (i := 95) rfl rfl
theorem zw862 : Cond.code yX12_removeSense cX12_removeSense 3 (some .int) ∈ zWS := zin_5 (i := 96) rfl rfl
theorem zw863 : Cond.methodLink RL 36 yX11_removeRule ∈ zWS := zin_3 (i := 39) rfl rfl
theorem zw864 : Cond.instanceMethod yX11_removeRule ∈ zWS := zin_3 (i := 40) rfl rfl
theorem zw865 : Cond.selects RX11 yX11_removeRule yX11_removeRule ∈ zWS := zin_3 (i := 41) rfl rfl
theorem zw866 : Cond.code yX11_removeRule cX11_removeRule 2 (some .int) ∈ zWS := zin_3 (i := 42) rfl rfl
theorem zw867 : Cond.methodLink RL 39 yX12_removeRule ∈ zWS := zin_5 (i := 97) rfl rfl
theorem zw868 : Cond.instanceMethod yX12_removeRule ∈ zWS := zin_5 (i := 98) rfl rfl
theorem zw869 : Cond.selects RX12 yX12_removeRule yX12_removeRule ∈ zWS := zin_5 (i := 99) rfl rfl
theorem zw870 : Cond.code yX12_removeRule cX12_removeRule 3 (some .int) ∈ zWS := zin_5 (i := 100) rfl rfl
theorem zw871 : Cond.methodLink RL 40 yX11_parameter ∈ zWS := zin_3 (i := 48) rfl rfl
theorem zw872 : Cond.instanceMethod yX11_parameter ∈ zWS := zin_3 (i := 49) rfl rfl
theorem zw873 : Cond.selects RX11 yX11_parameter yX11_parameter ∈ zWS := zin_3 (i := 50) rfl rfl
theorem zw874 : Cond.code yX11_parameter cX11_parameter 4 (some .int) ∈ zWS := zin_3 (i := 51) rfl rfl
theorem zw875 : Cond.methodLink RL 44 yX12_parameter ∈ zWS := zin_5 (i := 101) rfl rfl
theorem zw876 : Cond.instanceMethod yX12_parameter ∈ zWS := zin_5 (i := 102) rfl rfl
theorem zw877 : Cond.selects RX12 yX12_parameter yX12_parameter ∈ zWS := zin_5 (i := 103) rfl rfl
theorem zw878 : Cond.code yX12_parameter cX12_parameter 4 (some .int) ∈ zWS := zin_5 (i := 104) rfl rfl
theorem zw879 : Cond.methodLink RL 45 yX11_budget ∈ zWS := zin_3 (i := 52) rfl rfl
theorem zw880 : Cond.instanceMethod yX11_budget ∈ zWS := zin_3 (i := 53) rfl rfl
theorem zw881 : Cond.selects RX11 yX11_budget yX11_budget ∈ zWS := zin_3 (i := 54) rfl rfl
theorem zw882 : Cond.code yX11_budget cX11_budget 5 (some .int) ∈ zWS := zin_3 (i := 55) rfl rfl
theorem zw883 : Cond.methodLink RL 48 yX12_budget ∈ zWS := zin_5 (i := 105) rfl rfl
theorem zw884 : Cond.instanceMethod yX12_budget ∈ zWS := zin_5 (i := 106) rfl rfl
theorem zw885 : Cond.selects RX12 yX12_budget yX12_budget ∈ zWS := zin_5 (i := 107) rfl rfl
theorem zw886 : Cond.code yX12_budget cX12_budget 4 (some .int) ∈ zWS := zin_5 (i := 108) rfl rfl
theorem zw887 : Cond.methodLink RL 49 yX11_insert ∈ zWS := zin_3 (i := 56) rfl rfl
theorem zw888 : Cond.instanceMethod yX11_insert ∈ zWS := zin_3 (i := 57) rfl rfl
theorem zw889 : Cond.selects RX11 yX11_insert yX11_insert ∈ zWS := zin_3 (i := 58) rfl rfl
theorem zw890 : Cond.code yX11_insert cX11_insert 4 (some .int) ∈ zWS := zin_3 (i := 59) rfl rfl
theorem zw891 : Cond.methodLink RL 52 yX12_insert ∈ zWS := zin_5 (i := 113) rfl rfl
theorem zw892 : Cond.instanceMethod yX12_insert ∈ zWS := zin_5 (i := 114) rfl rfl
theorem zw893 : Cond.selects RX12 yX12_insert yX12_insert ∈ zWS := zin_5 (i := 115) rfl rfl
theorem zw894 : Cond.code yX12_insert cX12_insert 6 (some .int) ∈ zWS := zin_5 (i := 116) rfl rfl
theorem zw895 : Cond.methodLink RL 53 yX11_replace ∈ zWS := zin_3 (i := 210) rfl rfl
theorem zw896 : Cond.instanceMethod yX11_replace ∈ zWS := zin_3 (i := 211) rfl rfl
theorem zw897 : Cond.selects RX11 yX11_replace yX11_replace ∈ zWS := zin_3 (i := 212) rfl rfl
theorem zw898 : Cond.code yX11_replace cX11_replace 4 (some .int) ∈ zWS := zin_3 (i := 213) rfl rfl
theorem zw899 : Cond.methodLink RL 56 yX12_replace ∈ zWS := zin_5 (i := 196) rfl rfl
theorem zw900 : Cond.instanceMethod yX12_replace ∈ zWS := zin_5 (i := 197) rfl rfl
theorem zw901 : Cond.selects RX12 yX12_replace yX12_replace ∈ zWS := zin_5 (i := 198) rfl rfl
theorem zw902 : Cond.code yX12_replace cX12_replace 4 (some .int) ∈ zWS := zin_5 (i := 199) rfl rfl
theorem zw903 : Cond.methodLink RL 57 yX11_cut ∈ zWS := zin_3 (i := 218) rfl rfl
theorem zw904 : Cond.instanceMethod yX11_cut ∈ zWS := zin_3 (i := 219) rfl rfl
theorem zw905 : Cond.selects RX11 yX11_cut yX11_cut ∈ zWS := zin_3 (i := 220) rfl rfl
theorem zw906 : Cond.code yX11_cut cX11_cut 4 (some .int) ∈ zWS := zin_3 (i := 221) rfl rfl
theorem zw907 : Cond.methodLink RL 60 yX12_cut ∈ zWS := zin_5 (i := 204) rfl rfl
theorem zw908 : Cond.instanceMethod yX12_cut ∈ zWS := zin_5 (i := 205) rfl rfl
theorem zw909 : Cond.selects RX12 yX12_cut yX12_cut ∈ zWS := zin_5 (i := 206) rfl rfl
theorem zw910 : Cond.code yX12_cut cX12_cut 7 (some .int) ∈ zWS := zin_5 (i := 207) rfl rfl
theorem zw911 : Cond.methodLink RL 61 yX11_edited ∈ zWS := zin_3 (i := 234) rfl rfl
theorem zw912 : Cond.instanceMethod yX11_edited ∈ zWS := zin_3 (i := 235) rfl rfl
theorem zw913 : Cond.selects RX11 yX11_edited yX11_edited ∈ zWS := zin_3 (i := 236) rfl rfl
theorem zw914 : Cond.code yX11_edited cX11_edited 2 (some .int) ∈ zWS := zin_3 (i := 237) rfl rfl
theorem zw915 : Cond.methodLink RL 64 yX12_edited ∈ zWS := zin_5 (i := 208) rfl rfl
theorem zw916 : Cond.instanceMethod yX12_edited ∈ zWS := zin_5 (i := 209) rfl rfl
theorem zw917 : Cond.selects RX12 yX12_edited yX12_edited ∈ zWS := zin_5 (i := 210) rfl rfl
theorem zw918 : Cond.code yX12_edited cX12_edited 2 (some .int) ∈ zWS := zin_5 (i := 211) rfl rfl
theorem zw919 : Cond.methodLink RL 65 yX11_cause ∈ zWS := zin_3 (i := 238) rfl rfl
theorem zw920 : Cond.instanceMethod yX11_cause ∈ zWS := zin_3 (i := 239) rfl rfl
theorem zw921 : Cond.selects RX11 yX11_cause yX11_cause ∈ zWS := zin_4 (i := 0) rfl rfl
theorem zw922 : Cond.code yX11_cause cX11_cause 1 (some .int) ∈ zWS := zin_4 (i := 1) rfl rfl
theorem zw923 : Cond.methodLink RL 68 yX12_cause ∈ zWS := zin_5 (i := 212) rfl rfl
theorem zw924 : Cond.instanceMethod yX12_cause ∈ zWS := zin_5 (i := 213) rfl rfl
theorem zw925 : Cond.selects RX12 yX12_cause yX12_cause ∈ zWS := zin_5 (i := 214) rfl rfl
theorem zw926 : Cond.code yX12_cause cX12_cause 1 (some .int) ∈ zWS := zin_5 (i := 215) rfl rfl
theorem zw927 : Cond.methodLink RL 69 yX11_word ∈ zWS := zin_4 (i := 2) rfl rfl
theorem zw928 : Cond.instanceMethod yX11_word ∈ zWS := zin_4 (i := 3) rfl rfl
theorem zw929 : Cond.selects RX11 yX11_word yX11_word ∈ zWS := zin_4 (i := 4) rfl rfl
theorem zw930 : Cond.code yX11_word cX11_word 5 (some .int) ∈ zWS := zin_4 (i := 5) rfl rfl
theorem zw931 : Cond.methodLink RL 73 yX12_word_ ∈ zWS := zin_5 (i := 216) rfl rfl
theorem zw932 : Cond.instanceMethod yX12_word_ ∈ zWS := zin_5 (i := 217) rfl rfl
theorem zw933 : Cond.selects RX12 yX12_word_ yX12_word_ ∈ zWS := zin_5 (i := 218) rfl rfl
theorem zw934 : Cond.code yX12_word_ cX12_word_ 5 (some .int) ∈ zWS := zin_5 (i := 219) rfl rfl
theorem zw935 : Cond.methodLink RL 74 yX11_told ∈ zWS := zin_4 (i := 14) rfl rfl
theorem zw936 : Cond.instanceMethod yX11_told ∈ zWS := zin_4 (i := 15) rfl rfl
theorem zw937 : Cond.selects RX11 yX11_told yX11_told ∈ zWS := zin_4 (i := 16) rfl rfl
theorem zw938 : Cond.code yX11_told cX11_told 5 (some .int) ∈ zWS := zin_4 (i := 17) rfl rfl
theorem zw939 : Cond.methodLink RL 77 yX12_told ∈ zWS := zin_5 (i := 220) rfl rfl
theorem zw940 : Cond.instanceMethod yX12_told ∈ zWS := zin_5 (i := 221) rfl rfl
theorem zw941 : Cond.selects RX12 yX12_told yX12_told ∈ zWS := zin_5 (i := 222) rfl rfl
theorem zw942 : Cond.code yX12_told cX12_told 6 (some .int) ∈ zWS := zin_5 (i := 223) rfl rfl
theorem zw943 : Cond.methodLink RL 78 yX11_base ∈ zWS := zin_4 (i := 35) rfl rfl
theorem zw944 : Cond.instanceMethod yX11_base ∈ zWS := zin_4 (i := 36) rfl rfl
theorem zw945 : Cond.selects RX11 yX11_base yX11_base ∈ zWS := zin_4 (i := 37) rfl rfl
theorem zw946 : Cond.code yX11_base cX11_base 7 (some .int) ∈ zWS := zin_4 (i := 38) rfl rfl
theorem zw947 : Cond.methodLink RL 82 yX12_base ∈ zWS := zin_5 (i := 224) rfl rfl
theorem zw948 : Cond.instanceMethod yX12_base ∈ zWS := zin_5 (i := 225) rfl rfl
theorem zw949 : Cond.selects RX12 yX12_base yX12_base ∈ zWS := zin_5 (i := 226) rfl rfl
theorem zw950 : Cond.code yX12_base cX12_base 6 (some .int) ∈ zWS := zin_5 (i := 227) rfl rfl
theorem zw951 : Cond.methodLink RL 83 yX11_ofSense ∈ zWS := zin_4 (i := 41) rfl rfl
theorem zw952 : Cond.instanceMethod yX11_ofSense ∈ zWS := zin_4 (i := 42) rfl rfl
theorem zw953 : Cond.selects RX11 yX11_ofSense yX11_ofSense ∈ zWS := zin_4 (i := 43) rfl rfl
theorem zw954 : Cond.code yX11_ofSense cX11_ofSense 4 (some .int) ∈ zWS := zin_4 (i := 44) rfl rfl
theorem zw955 : Cond.methodLink RL 86 yX12_ofSense ∈ zWS := zin_5 (i := 228) rfl rfl
theorem zw956 : Cond.instanceMethod yX12_ofSense ∈ zWS := zin_5 (i := 229) rfl rfl
theorem zw957 : Cond.selects RX12 yX12_ofSense yX12_ofSense ∈ zWS := zin_5 (i := 230) rfl rfl
theorem zw958 : Cond.code yX12_ofSense cX12_ofSense 6 (some .int) ∈ zWS := zin_5 (i := 231) rfl rfl
theorem zw959 : Cond.methodLink RL 87 yX11_ofPage ∈ zWS := zin_4 (i := 65) rfl rfl
theorem zw960 : Cond.instanceMethod yX11_ofPage ∈ zWS := zin_4 (i := 66) rfl rfl
theorem zw961 : Cond.selects RX11 yX11_ofPage yX11_ofPage ∈ zWS := zin_4 (i := 67) rfl rfl
theorem zw962 : Cond.code yX11_ofPage cX11_ofPage 5 (some .int) ∈ zWS := zin_4 (i := 68) rfl rfl
theorem zw963 : Cond.methodLink RL 90 yX12_ofPage ∈ zWS := zin_5 (i := 232) rfl rfl
theorem zw964 : Cond.instanceMethod yX12_ofPage ∈ zWS := zin_5 (i := 233) rfl rfl
theorem zw965 : Cond.selects RX12 yX12_ofPage yX12_ofPage ∈ zWS := zin_5 (i := 234) rfl rfl
theorem zw966 : Cond.code yX12_ofPage cX12_ofPage 3 (some .int) ∈ zWS := zin_5 (i := 235) rfl rfl
theorem zw967 : Cond.methodLink RL 91 yX11_link ∈ zWS := zin_4 (i := 81) rfl rfl
theorem zw968 : Cond.instanceMethod yX11_link ∈ zWS := zin_4 (i := 82) rfl rfl
theorem zw969 : Cond.selects RX11 yX11_link yX11_link ∈ zWS := zin_4 (i := 83) rfl rfl
theorem zw970 : Cond.code yX11_link cX11_link 4 (some .int) ∈ zWS := zin_4 (i := 84) rfl rfl
theorem zw971 : Cond.methodLink RL 94 yX12_link ∈ zWS := zin_6 (i := 4) rfl rfl
theorem zw972 : Cond.instanceMethod yX12_link ∈ zWS := zin_6 (i := 5) rfl rfl
theorem zw973 : Cond.selects RX12 yX12_link yX12_link ∈ zWS := zin_6 (i := 6) rfl rfl
theorem zw974 : Cond.code yX12_link cX12_link 4 (some .int) ∈ zWS := zin_6 (i := 7) rfl rfl
theorem zw975 : Cond.methodLink RL 95 yX11_without ∈ zWS := zin_4 (i := 89) rfl rfl
theorem zw976 : Cond.instanceMethod yX11_without ∈ zWS := zin_4 (i := 90) rfl rfl
theorem zw977 : Cond.selects RX11 yX11_without yX11_without ∈ zWS := zin_4 (i := 91) rfl rfl
theorem zw978 : Cond.code yX11_without cX11_without 5 (some .int) ∈ zWS := zin_4 (i := 92) rfl rfl
theorem zw979 : Cond.methodLink RL 98 yX12_without ∈ zWS := zin_6 (i := 12) rfl rfl
theorem zw980 : Cond.instanceMethod yX12_without ∈ zWS := zin_6 (i := 13) rfl rfl
theorem zw981 : Cond.selects RX12 yX12_without yX12_without ∈ zWS := zin_6 (i := 14) rfl rfl
theorem zw982 : Cond.code yX12_without cX12_without 5 (some .int) ∈ zWS := zin_6 (i := 15) rfl rfl
theorem zw983 : Cond.methodLink RL 99 yX11_again ∈ zWS := zin_4 (i := 97) rfl rfl
theorem zw984 : Cond.instanceMethod yX11_again ∈ zWS := zin_4 (i := 98) rfl rfl
theorem zw985 : Cond.selects RX11 yX11_again yX11_again ∈ zWS := zin_4 (i := 99) rfl rfl
theorem zw986 : Cond.code yX11_again cX11_again 3 (some .int) ∈ zWS := zin_4 (i := 100) rfl rfl
theorem zw987 : Cond.methodLink RL 102 yX12_again ∈ zWS := zin_6 (i := 16) rfl rfl
theorem zw988 : Cond.instanceMethod yX12_again ∈ zWS := zin_6 (i := 17) rfl rfl
theorem zw989 : Cond.selects RX12 yX12_again yX12_again ∈ zWS := zin_6 (i := 18) rfl rfl
theorem zw990 : Cond.code yX12_again cX12_again 2 (some .int) ∈ zWS := zin_6 (i := 19) rfl rfl
theorem zw991 : Cond.methodLink RL 103 yX11_back ∈ zWS := zin_4 (i := 111) rfl rfl
theorem zw992 : Cond.instanceMethod yX11_back ∈ zWS := zin_4 (i := 112) rfl rfl
theorem zw993 : Cond.selects RX11 yX11_back yX11_back ∈ zWS := zin_4 (i := 113) rfl rfl
theorem zw994 : Cond.code yX11_back cX11_back 1 (some .int) ∈ zWS := zin_4 (i := 114) rfl rfl
theorem zw995 : Cond.methodLink RL 106 yX12_back ∈ zWS := zin_6 (i := 20) rfl rfl
theorem zw996 : Cond.instanceMethod yX12_back ∈ zWS := zin_6 (i := 21) rfl rfl
theorem zw997 : Cond.selects RX12 yX12_back yX12_back ∈ zWS := zin_6 (i := 22) rfl rfl
theorem zw998 : Cond.code yX12_back cX12_back 1 (some .int) ∈ zWS := zin_6 (i := 23) rfl rfl
theorem zw999 : Cond.methodLink RL 107 yX11_image ∈ zWS := zin_4 (i := 119) rfl rfl
theorem zw1000 : Cond.instanceMethod yX11_image ∈ zWS := zin_4 (i := 120) rfl rfl
theorem zw1001 : Cond.selects RX11 yX11_image yX11_image ∈ zWS := zin_4 (i := 121) rfl rfl
theorem zw1002 : Cond.code yX11_image cX11_image 1 (some .int) ∈ zWS := zin_4 (i := 122) rfl rfl
theorem zw1003 : Cond.methodLink RL 110 yX12_image ∈ zWS := zin_6 (i := 24) rfl rfl
theorem zw1004 : Cond.instanceMethod yX12_image ∈ zWS := zin_6 (i := 25) rfl rfl
theorem zw1005 : Cond.selects RX12 yX12_image yX12_image ∈ zWS := zin_6 (i := 26) rfl rfl
theorem zw1006 : Cond.code yX12_image cX12_image 1 (some .int) ∈ zWS := zin_6 (i := 27) rfl rfl
theorem zw1007 : Cond.methodLink RL 111 yX11_undo ∈ zWS := zin_4 (i := 124) rfl rfl
theorem zw1008 : Cond.instanceMethod yX11_undo ∈ zWS := zin_4 (i := 125) rfl rfl
theorem zw1009 : Cond.selects RX11 yX11_undo yX11_undo ∈ zWS := zin_4 (i := 126) rfl rfl
theorem zw1010 : Cond.code yX11_undo cX11_undo 1 (some .int) ∈ zWS := zin_4 (i := 127) rfl rfl
theorem zw1011 : Cond.methodLink RL 114 yX12_undo ∈ zWS := zin_6 (i := 28) rfl rfl
theorem zw1012 : Cond.instanceMethod yX12_undo ∈ zWS := zin_6 (i := 29) rfl rfl
theorem zw1013 : Cond.selects RX12 yX12_undo yX12_undo ∈ zWS := zin_6 (i := 30) rfl rfl
theorem zw1014 : Cond.code yX12_undo cX12_undo 1 (some .int) ∈ zWS := zin_6 (i := 31) rfl rfl
theorem zw1015 : Cond.methodLink RL 115 yX11_count ∈ zWS := zin_4 (i := 128) rfl rfl
theorem zw1016 : Cond.instanceMethod yX11_count ∈ zWS := zin_4 (i := 129) rfl rfl
theorem zw1017 : Cond.selects RX11 yX11_count yX11_count ∈ zWS := zin_4 (i := 130) rfl rfl
theorem zw1018 : Cond.code yX11_count cX11_count 2 (some .int) ∈ zWS := zin_4 (i := 131) rfl rfl
theorem zw1019 : Cond.methodLink RL 118 yX12_count ∈ zWS := zin_6 (i := 32) rfl rfl
theorem zw1020 : Cond.instanceMethod yX12_count ∈ zWS := zin_6 (i := 33) rfl rfl
theorem zw1021 : Cond.selects RX12 yX12_count yX12_count ∈ zWS := zin_6 (i := 34) rfl rfl
theorem zw1022 : Cond.code yX12_count cX12_count 6 (some .int) ∈ zWS := zin_6 (i := 35) rfl rfl
theorem zlay_0 : ∀ j, j < 3 → u_lay RX0 TX0 j ∈ zWS := fun j h => match j, h with
  | 0, _ => zin_2 (i := 28) rfl rfl
  | 1, _ => zin_2 (i := 30) rfl rfl
  | 2, _ => zin_2 (i := 32) rfl rfl
  | n + 3, h => absurd h (by omega)
theorem zCI_0 : zCI 0 RX0 TX0 3 tyX0 := ⟨rfl, by decide, fun w hw => by
    obtain ⟨j, hj, rfl⟩ := List.mem_map.mp hw
    exact zlay_0 j (List.mem_range.mp hj), tyX0_ok, nmX0, rfl, by decide +kernel⟩
theorem zlay_1 : ∀ j, j < 5 → u_lay RX1 TX1 j ∈ zWS := fun j h => match j, h with
  | 0, _ => zin_1 (i := 219) rfl rfl
  | 1, _ => zin_1 (i := 221) rfl rfl
  | 2, _ => zin_1 (i := 223) rfl rfl
  | 3, _ => zin_1 (i := 225) rfl rfl
  | 4, _ => zin_1 (i := 227) rfl rfl
  | n + 5, h => absurd h (by omega)
theorem zCI_1 : zCI 1 RX1 TX1 5 tyX1 := ⟨rfl, by decide, fun w hw => by
    obtain ⟨j, hj, rfl⟩ := List.mem_map.mp hw
    exact zlay_1 j (List.mem_range.mp hj), tyX1_ok, nmX1, rfl, by decide +kernel⟩
theorem zlay_2 : ∀ j, j < 2 → u_lay RX2 TX2 j ∈ zWS := fun j h => match j, h with
  | 0, _ => zin_1 (i := 196) rfl rfl
  | 1, _ => zin_1 (i := 198) rfl rfl
  | n + 2, h => absurd h (by omega)
theorem zCI_2 : zCI 2 RX2 TX2 2 tyX2 := ⟨rfl, by decide, fun w hw => by
    obtain ⟨j, hj, rfl⟩ := List.mem_map.mp hw
    exact zlay_2 j (List.mem_range.mp hj), tyX2_ok, nmX2, rfl, by decide +kernel⟩
theorem zlay_3 : ∀ j, j < 14 → u_lay RX3 TX3 j ∈ zWS := fun j h => match j, h with
  | 0, _ => zin_2 (i := 51) rfl rfl
  | 1, _ => zin_2 (i := 53) rfl rfl
  | 2, _ => zin_2 (i := 55) rfl rfl
  | 3, _ => zin_2 (i := 57) rfl rfl
  | 4, _ => zin_2 (i := 59) rfl rfl
  | 5, _ => zin_2 (i := 61) rfl rfl
  | 6, _ => zin_2 (i := 63) rfl rfl
  | 7, _ => zin_2 (i := 65) rfl rfl
  | 8, _ => zin_2 (i := 67) rfl rfl
  | 9, _ => zin_2 (i := 69) rfl rfl
  | 10, _ => zin_2 (i := 71) rfl rfl
  | 11, _ => zin_2 (i := 73) rfl rfl
  | 12, _ => zin_2 (i := 75) rfl rfl
  | 13, _ => zin_2 (i := 77) rfl rfl
  | n + 14, h => absurd h (by omega)
theorem zCI_3 : zCI 3 RX3 TX3 14 tyX3 := ⟨rfl, by decide, fun w hw => by
    obtain ⟨j, hj, rfl⟩ := List.mem_map.mp hw
    exact zlay_3 j (List.mem_range.mp hj), tyX3_ok, nmX3, rfl, by decide +kernel⟩
theorem zlay_4 : ∀ j, j < 4 → u_lay RX4 TX4 j ∈ zWS := fun j h => match j, h with
  | 0, _ => zin_1 (i := 45) rfl rfl
  | 1, _ => zin_1 (i := 47) rfl rfl
  | 2, _ => zin_1 (i := 49) rfl rfl
  | 3, _ => zin_1 (i := 51) rfl rfl
  | n + 4, h => absurd h (by omega)
theorem zCI_4 : zCI 4 RX4 TX4 4 tyX4 := ⟨rfl, by decide, fun w hw => by
    obtain ⟨j, hj, rfl⟩ := List.mem_map.mp hw
    exact zlay_4 j (List.mem_range.mp hj), tyX4_ok, nmX4, rfl, by decide +kernel⟩
theorem zlay_5 : ∀ j, j < 4 → u_lay RX5 TX5 j ∈ zWS := fun j h => match j, h with
  | 0, _ => zin_2 (i := 8) rfl rfl
  | 1, _ => zin_2 (i := 10) rfl rfl
  | 2, _ => zin_2 (i := 12) rfl rfl
  | 3, _ => zin_2 (i := 14) rfl rfl
  | n + 4, h => absurd h (by omega)
theorem zCI_5 : zCI 5 RX5 TX5 4 tyX5 := ⟨rfl, by decide, fun w hw => by
    obtain ⟨j, hj, rfl⟩ := List.mem_map.mp hw
    exact zlay_5 j (List.mem_range.mp hj), tyX5_ok, nmX5, rfl, by decide +kernel⟩
theorem zlay_6 : ∀ j, j < 4 → u_lay RX6 TX6 j ∈ zWS := fun j h => match j, h with
  | 0, _ => zin_1 (i := 95) rfl rfl
  | 1, _ => zin_1 (i := 97) rfl rfl
  | 2, _ => zin_1 (i := 99) rfl rfl
  | 3, _ => zin_1 (i := 101) rfl rfl
  | n + 4, h => absurd h (by omega)
theorem zCI_6 : zCI 6 RX6 TX6 4 tyX6 := ⟨rfl, by decide, fun w hw => by
    obtain ⟨j, hj, rfl⟩ := List.mem_map.mp hw
    exact zlay_6 j (List.mem_range.mp hj), tyX6_ok, nmX6, rfl, by decide +kernel⟩
theorem zlay_7 : ∀ j, j < 4 → u_lay RX7 TX7 j ∈ zWS := fun j h => match j, h with
  | 0, _ => zin_1 (i := 76) rfl rfl
  | 1, _ => zin_1 (i := 78) rfl rfl
  | 2, _ => zin_1 (i := 80) rfl rfl
  | 3, _ => zin_1 (i := 82) rfl rfl
  | n + 4, h => absurd h (by omega)
theorem zCI_7 : zCI 7 RX7 TX7 4 tyX7 := ⟨rfl, by decide, fun w hw => by
    obtain ⟨j, hj, rfl⟩ := List.mem_map.mp hw
    exact zlay_7 j (List.mem_range.mp hj), tyX7_ok, nmX7, rfl, by decide +kernel⟩
theorem zlay_8 : ∀ j, j < 7 → u_lay RX8 TX8 j ∈ zWS := fun j h => match j, h with
  | 0, _ => zin_1 (i := 169) rfl rfl
  | 1, _ => zin_1 (i := 171) rfl rfl
  | 2, _ => zin_1 (i := 173) rfl rfl
  | 3, _ => zin_1 (i := 175) rfl rfl
  | 4, _ => zin_1 (i := 177) rfl rfl
  | 5, _ => zin_1 (i := 179) rfl rfl
  | 6, _ => zin_1 (i := 181) rfl rfl
  | n + 7, h => absurd h (by omega)
theorem zCI_8 : zCI 8 RX8 TX8 7 tyX8 := ⟨rfl, by decide, fun w hw => by
    obtain ⟨j, hj, rfl⟩ := List.mem_map.mp hw
    exact zlay_8 j (List.mem_range.mp hj), tyX8_ok, nmX8, rfl, by decide +kernel⟩
theorem zlay_9 : ∀ j, j < 9 → u_lay RX9 TX9 j ∈ zWS := fun j h => match j, h with
  | 0, _ => zin_1 (i := 120) rfl rfl
  | 1, _ => zin_1 (i := 122) rfl rfl
  | 2, _ => zin_1 (i := 124) rfl rfl
  | 3, _ => zin_1 (i := 126) rfl rfl
  | 4, _ => zin_1 (i := 128) rfl rfl
  | 5, _ => zin_1 (i := 130) rfl rfl
  | 6, _ => zin_1 (i := 132) rfl rfl
  | 7, _ => zin_1 (i := 134) rfl rfl
  | 8, _ => zin_1 (i := 136) rfl rfl
  | n + 9, h => absurd h (by omega)
theorem zCI_9 : zCI 9 RX9 TX9 9 tyX9 := ⟨rfl, by decide, fun w hw => by
    obtain ⟨j, hj, rfl⟩ := List.mem_map.mp hw
    exact zlay_9 j (List.mem_range.mp hj), tyX9_ok, nmX9, rfl, by decide +kernel⟩
theorem zlay_10 : ∀ j, j < 7 → u_lay RX11 TX11 j ∈ zWS := fun j h => match j, h with
  | 0, _ => zin_2 (i := 87) rfl rfl
  | 1, _ => zin_2 (i := 89) rfl rfl
  | 2, _ => zin_2 (i := 91) rfl rfl
  | 3, _ => zin_2 (i := 93) rfl rfl
  | 4, _ => zin_2 (i := 95) rfl rfl
  | 5, _ => zin_2 (i := 97) rfl rfl
  | 6, _ => zin_2 (i := 99) rfl rfl
  | n + 7, h => absurd h (by omega)
theorem zCI_10 : zCI 10 RX11 TX11 7 tyX11 := ⟨rfl, by decide, fun w hw => by
    obtain ⟨j, hj, rfl⟩ := List.mem_map.mp hw
    exact zlay_10 j (List.mem_range.mp hj), tyX11_ok, nmX11, rfl, by decide +kernel⟩
theorem zlay_11 : ∀ j, j < 29 → u_lay RX12 TX12 j ∈ zWS := fun j h => match j, h with
  | 0, _ => zin_4 (i := 183) rfl rfl
  | 1, _ => zin_4 (i := 185) rfl rfl
  | 2, _ => zin_4 (i := 187) rfl rfl
  | 3, _ => zin_4 (i := 189) rfl rfl
  | 4, _ => zin_4 (i := 191) rfl rfl
  | 5, _ => zin_4 (i := 193) rfl rfl
  | 6, _ => zin_4 (i := 195) rfl rfl
  | 7, _ => zin_4 (i := 197) rfl rfl
  | 8, _ => zin_4 (i := 199) rfl rfl
  | 9, _ => zin_4 (i := 201) rfl rfl
  | 10, _ => zin_4 (i := 203) rfl rfl
  | 11, _ => zin_4 (i := 205) rfl rfl
  | 12, _ => zin_4 (i := 207) rfl rfl
  | 13, _ => zin_4 (i := 209) rfl rfl
  | 14, _ => zin_4 (i := 211) rfl rfl
  | 15, _ => zin_4 (i := 213) rfl rfl
  | 16, _ => zin_4 (i := 215) rfl rfl
  | 17, _ => zin_4 (i := 217) rfl rfl
  | 18, _ => zin_4 (i := 219) rfl rfl
  | 19, _ => zin_4 (i := 221) rfl rfl
  | 20, _ => zin_4 (i := 223) rfl rfl
  | 21, _ => zin_4 (i := 225) rfl rfl
  | 22, _ => zin_4 (i := 227) rfl rfl
  | 23, _ => zin_4 (i := 229) rfl rfl
  | 24, _ => zin_4 (i := 231) rfl rfl
  | 25, _ => zin_4 (i := 233) rfl rfl
  | 26, _ => zin_4 (i := 235) rfl rfl
  | 27, _ => zin_4 (i := 237) rfl rfl
  | 28, _ => zin_4 (i := 239) rfl rfl
  | n + 29, h => absurd h (by omega)
theorem zCI_11 : zCI 11 RX12 TX12 29 tyX12 := ⟨rfl, by decide, fun w hw => by
    obtain ⟨j, hj, rfl⟩ := List.mem_map.mp hw
    exact zlay_11 j (List.mem_range.mp hj), tyX12_ok, nmX12, rfl, by decide +kernel⟩

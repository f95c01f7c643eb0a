theorem tb_0 : Cond.selects RX9 yX9_measure yX9_measure ∈ gw_tbl := mg (List.mem_of_getElem? (i := 0) (by decide +kernel)) rfl
theorem tb_1 : Cond.selects RX9 yX9_shortenFrom yX9_shortenFrom ∈ gw_tbl := mg (List.mem_of_getElem? (i := 1) (by decide +kernel)) rfl
theorem tb_2 : Cond.selects RX6 yX6_listCourts yX6_listCourts ∈ gw_tbl := mg (List.mem_of_getElem? (i := 2) (by decide +kernel)) rfl
theorem tb_3 : Cond.selects RX6 yX6_measureSteps yX6_measureSteps ∈ gw_tbl := mg (List.mem_of_getElem? (i := 3) (by decide +kernel)) rfl
theorem tb_4 : Cond.selects RX6 yX6_measureTours yX6_measureTours ∈ gw_tbl := mg (List.mem_of_getElem? (i := 4) (by decide +kernel)) rfl
theorem tb_5 : Cond.selects RX6 yX6_shortestTour yX6_shortestTour ∈ gw_tbl := mg (List.mem_of_getElem? (i := 5) (by decide +kernel)) rfl
theorem tb_6 : Cond.selects RX6 yX6_shortestPath yX6_shortestPath ∈ gw_tbl := mg (List.mem_of_getElem? (i := 6) (by decide +kernel)) rfl
theorem tb_7 : Cond.selects RX6 yX6_leastWithin yX6_leastWithin ∈ gw_tbl := mg (List.mem_of_getElem? (i := 7) (by decide +kernel)) rfl
theorem tb_8 : Cond.selects RX6 yX6_joinParts yX6_joinParts ∈ gw_tbl := mg (List.mem_of_getElem? (i := 8) (by decide +kernel)) rfl
theorem tb_9 : Cond.selects RX6 yX6_bestPlan yX6_bestPlan ∈ gw_tbl := mg (List.mem_of_getElem? (i := 9) (by decide +kernel)) rfl
theorem tb_10 : Cond.selects RX6 yX6_keepPlan yX6_keepPlan ∈ gw_tbl := mg (List.mem_of_getElem? (i := 10) (by decide +kernel)) rfl
theorem tb_11 : Cond.selects RX6 yX6_keepPartOf yX6_keepPartOf ∈ gw_tbl := mg (List.mem_of_getElem? (i := 11) (by decide +kernel)) rfl
theorem tb_12 : Cond.selects RX3 yX3_advance yX3_advance ∈ gw_tbl := mg (List.mem_of_getElem? (i := 12) (by decide +kernel)) rfl
theorem tb_13 : Cond.selects RX3 yX3_readLine yX3_readLine ∈ gw_tbl := mg (List.mem_of_getElem? (i := 13) (by decide +kernel)) rfl
theorem tb_14 : Cond.selects RX3 yX3_isWord yX3_isWord ∈ gw_tbl := mg (List.mem_of_getElem? (i := 14) (by decide +kernel)) rfl
theorem tb_15 : Cond.selects RX3 yX3_beginOnly yX3_beginOnly ∈ gw_tbl := mg (List.mem_of_getElem? (i := 15) (by decide +kernel)) rfl
theorem tb_16 : Cond.selects RX3 yX3_blame yX3_blame ∈ gw_tbl := mg (List.mem_of_getElem? (i := 16) (by decide +kernel)) rfl
theorem tb_17 : Cond.selects RX3 yX3_takeNumber yX3_takeNumber ∈ gw_tbl := mg (List.mem_of_getElem? (i := 17) (by decide +kernel)) rfl
theorem tb_18 : Cond.selects RX3 yX3_readPower yX3_readPower ∈ gw_tbl := mg (List.mem_of_getElem? (i := 18) (by decide +kernel)) rfl
theorem tb_19 : Cond.selects RX3 yX3_takePower yX3_takePower ∈ gw_tbl := mg (List.mem_of_getElem? (i := 19) (by decide +kernel)) rfl
theorem tb_20 : Cond.selects RX3 yX3_takeWord yX3_takeWord ∈ gw_tbl := mg (List.mem_of_getElem? (i := 20) (by decide +kernel)) rfl
theorem tb_21 : Cond.selects RX3 yX3_takeCry yX3_takeCry ∈ gw_tbl := mg (List.mem_of_getElem? (i := 21) (by decide +kernel)) rfl
theorem tb_22 : Cond.selects RX3 yX3_takeSemicolon yX3_takeSemicolon ∈ gw_tbl := mg (List.mem_of_getElem? (i := 22) (by decide +kernel)) rfl
theorem tb_23 : Cond.selects RX11 yX11_enactDraft yX11_enactDraft ∈ gw_tbl := mg (List.mem_of_getElem? (i := 23) (by decide +kernel)) rfl
theorem tb_24 : Cond.selects RX4 yX4_hasHour yX4_hasHour ∈ gw_tbl := mg (List.mem_of_getElem? (i := 24) (by decide +kernel)) rfl
theorem tb_25 : Cond.selects RX7 yX7_appoint yX7_appoint ∈ gw_tbl := mg (List.mem_of_getElem? (i := 25) (by decide +kernel)) rfl
theorem tb_26 : Cond.selects RX5 yX5_lockUp yX5_lockUp ∈ gw_tbl := mg (List.mem_of_getElem? (i := 26) (by decide +kernel)) rfl
theorem tb_27 : Cond.selects RX12 yX12_makeFar yX12_makeFar ∈ gw_tbl := mg (List.mem_of_getElem? (i := 27) (by decide +kernel)) rfl
theorem tb_29 : Cond.selects RX12 yX12_farOf yX12_farOf ∈ gw_tbl := mg (List.mem_of_getElem? (i := 29) (by decide +kernel)) rfl
theorem tb_31 : Cond.selects RX12 yX12_scan yX12_scan ∈ gw_tbl := mg (List.mem_of_getElem? (i := 31) (by decide +kernel)) rfl
theorem tb_32 : Cond.selects RX12 yX12_see yX12_see ∈ gw_tbl := mg (List.mem_of_getElem? (i := 32) (by decide +kernel)) rfl
theorem tb_33 : Cond.selects RX12 yX12_keyAt yX12_keyAt ∈ gw_tbl := mg (List.mem_of_getElem? (i := 33) (by decide +kernel)) rfl
theorem tb_34 : Cond.selects RX12 yX12_readLine yX12_readLine ∈ gw_tbl := mg (List.mem_of_getElem? (i := 34) (by decide +kernel)) rfl
theorem tb_35 : Cond.selects RX12 yX12_wrong yX12_wrong ∈ gw_tbl := mg (List.mem_of_getElem? (i := 35) (by decide +kernel)) rfl
theorem tb_36 : Cond.selects RX12 yX12_readPower yX12_readPower ∈ gw_tbl := mg (List.mem_of_getElem? (i := 36) (by decide +kernel)) rfl
theorem tb_37 : Cond.selects RX12 yX12_word yX12_word ∈ gw_tbl := mg (List.mem_of_getElem? (i := 37) (by decide +kernel)) rfl
theorem tb_38 : Cond.selects RX12 yX12_hour yX12_hour ∈ gw_tbl := mg (List.mem_of_getElem? (i := 38) (by decide +kernel)) rfl
theorem tb_39 : Cond.selects RX12 yX12_hasCry yX12_hasCry ∈ gw_tbl := mg (List.mem_of_getElem? (i := 39) (by decide +kernel)) rfl
theorem tb_40 : Cond.selects RX12 yX12_number yX12_number ∈ gw_tbl := mg (List.mem_of_getElem? (i := 40) (by decide +kernel)) rfl
theorem tb_41 : Cond.selects RX12 yX12_isGiven yX12_isGiven ∈ gw_tbl := mg (List.mem_of_getElem? (i := 41) (by decide +kernel)) rfl
theorem tb_42 : Cond.selects RX12 yX12_isHouse yX12_isHouse ∈ gw_tbl := mg (List.mem_of_getElem? (i := 42) (by decide +kernel)) rfl
theorem tb_43 : Cond.selects RX12 yX12_turns yX12_turns ∈ gw_tbl := mg (List.mem_of_getElem? (i := 43) (by decide +kernel)) rfl
theorem tb_44 : Cond.selects RX12 yX12_placeFor yX12_placeFor ∈ gw_tbl := mg (List.mem_of_getElem? (i := 44) (by decide +kernel)) rfl
theorem tb_45 : Cond.selects RX12 yX12_hasPlace yX12_hasPlace ∈ gw_tbl := mg (List.mem_of_getElem? (i := 45) (by decide +kernel)) rfl
theorem tb_46 : Cond.selects RX12 yX12_lying yX12_lying ∈ gw_tbl := mg (List.mem_of_getElem? (i := 46) (by decide +kernel)) rfl
theorem tb_47 : Cond.selects RX12 yX12_chosen yX12_chosen ∈ gw_tbl := mg (List.mem_of_getElem? (i := 47) (by decide +kernel)) rfl
theorem tb_49 : Cond.initialized RX11 ∈ gw_tbl := mg (List.mem_of_getElem? (i := 49) (by decide +kernel)) rfl
theorem tb_50 : Cond.initialized RX8 ∈ gw_tbl := mg (List.mem_of_getElem? (i := 50) (by decide +kernel)) rfl
theorem tb_51 : Cond.initialized RX9 ∈ gw_tbl := mg (List.mem_of_getElem? (i := 51) (by decide +kernel)) rfl
theorem tb_52 : Cond.initialized RJ7 ∈ gw_tbl := mg (List.mem_of_getElem? (i := 52) (by decide +kernel)) rfl
theorem tb_53 : Cond.initialized RX6 ∈ gw_tbl := mg (List.mem_of_getElem? (i := 53) (by decide +kernel)) rfl
theorem tb_54 : Cond.initialized RJ6 ∈ gw_tbl := mg (List.mem_of_getElem? (i := 54) (by decide +kernel)) rfl
theorem tb_55 : Cond.initialized RX3 ∈ gw_tbl := mg (List.mem_of_getElem? (i := 55) (by decide +kernel)) rfl
theorem tb_56 : Cond.initialized RX7 ∈ gw_tbl := mg (List.mem_of_getElem? (i := 56) (by decide +kernel)) rfl
theorem tb_57 : Cond.initialized RX5 ∈ gw_tbl := mg (List.mem_of_getElem? (i := 57) (by decide +kernel)) rfl
theorem tb_58 : Cond.initialized RX1 ∈ gw_tbl := mg (List.mem_of_getElem? (i := 58) (by decide +kernel)) rfl
theorem tb_59 : Cond.initialized RX4 ∈ gw_tbl := mg (List.mem_of_getElem? (i := 59) (by decide +kernel)) rfl
theorem tb_60 : Cond.initialized RX10 ∈ gw_tbl := mg (List.mem_of_getElem? (i := 60) (by decide +kernel)) rfl
theorem tb_61 : Cond.initialized RX12 ∈ gw_tbl := mg (List.mem_of_getElem? (i := 61) (by decide +kernel)) rfl
theorem tb_62 : Cond.initialized RJ10 ∈ gw_tbl := mg (List.mem_of_getElem? (i := 62) (by decide +kernel)) rfl
theorem tb_63 : Cond.initialized RJ9 ∈ gw_tbl := mg (List.mem_of_getElem? (i := 63) (by decide +kernel)) rfl
theorem tb_64 : Cond.initialized RJ0 ∈ gw_tbl := mg (List.mem_of_getElem? (i := 64) (by decide +kernel)) rfl
theorem tb_65 : Cond.initialized RJ1 ∈ gw_tbl := mg (List.mem_of_getElem? (i := 65) (by decide +kernel)) rfl
theorem tb_66 : Cond.initialized RJ3 ∈ gw_tbl := mg (List.mem_of_getElem? (i := 66) (by decide +kernel)) rfl
theorem tb_68 : Cond.initialized RX2 ∈ gw_tbl := mg (List.mem_of_getElem? (i := 68) (by decide +kernel)) rfl
theorem tb_69 : Cond.initialized RX0 ∈ gw_tbl := mg (List.mem_of_getElem? (i := 69) (by decide +kernel)) rfl
theorem tb_84 : Cond.fieldLink RX8 9 "WardWatch$Tape" "bytes" "[B" ∈ gw_tbl := mg (List.mem_of_getElem? (i := 84) (by decide +kernel)) rfl
theorem tb_85 : Cond.fieldLink RX8 13 "WardWatch$Tape" "length" "I" ∈ gw_tbl := mg (List.mem_of_getElem? (i := 85) (by decide +kernel)) rfl
theorem tb_99 : Cond.static yJ7_fill_53178 ∈ gw_tbl := mg (List.mem_of_getElem? (i := 99) (by decide +kernel)) rfl
theorem tb_100 : Cond.code yJ7_fill_53178 cJ7_fill_53178 4 none ∈ gw_tbl := mg (List.mem_of_getElem? (i := 100) (by decide +kernel)) rfl
theorem tb_101 : Cond.fieldLink RX9 9 "WardWatch$Town" "wardOf" "[I" ∈ gw_tbl := mg (List.mem_of_getElem? (i := 101) (by decide +kernel)) rfl
theorem tb_102 : Cond.fieldLink RX9 15 "WardWatch$Town" "withinOf" "[I" ∈ gw_tbl := mg (List.mem_of_getElem? (i := 102) (by decide +kernel)) rfl
theorem tb_103 : Cond.fieldLink RX9 18 "WardWatch$Town" "ways" "[I" ∈ gw_tbl := mg (List.mem_of_getElem? (i := 103) (by decide +kernel)) rfl
theorem tb_104 : Cond.fieldLink RX9 21 "WardWatch$Town" "fars" "[I" ∈ gw_tbl := mg (List.mem_of_getElem? (i := 104) (by decide +kernel)) rfl
theorem tb_105 : Cond.fieldLink RX9 24 "WardWatch$Town" "stale" "Z" ∈ gw_tbl := mg (List.mem_of_getElem? (i := 105) (by decide +kernel)) rfl
theorem tb_127 : Cond.constant RJ6 264 (65536) ∈ gw_tbl := mg (List.mem_of_getElem? (i := 127) (by decide +kernel)) rfl
theorem tb_128 : Cond.methodLink RX6 46 yX6_rowShift ∈ gw_tbl := mg (List.mem_of_getElem? (i := 128) (by decide +kernel)) rfl
theorem tb_129 : Cond.static yX6_rowShift ∈ gw_tbl := mg (List.mem_of_getElem? (i := 129) (by decide +kernel)) rfl
theorem tb_130 : Cond.code yX6_rowShift cX6_rowShift 1 (some .int) ∈ gw_tbl := mg (List.mem_of_getElem? (i := 130) (by decide +kernel)) rfl
theorem tb_131 : Cond.fieldLink RX6 11 "WardWatch$Planner" "courts" "[I" ∈ gw_tbl := mg (List.mem_of_getElem? (i := 131) (by decide +kernel)) rfl
theorem tb_132 : Cond.fieldLink RX6 15 "WardWatch$Planner" "steps" "[I" ∈ gw_tbl := mg (List.mem_of_getElem? (i := 132) (by decide +kernel)) rfl
theorem tb_133 : Cond.fieldLink RX6 18 "WardWatch$Planner" "paths" "[I" ∈ gw_tbl := mg (List.mem_of_getElem? (i := 133) (by decide +kernel)) rfl
theorem tb_134 : Cond.fieldLink RX6 21 "WardWatch$Planner" "tours" "[I" ∈ gw_tbl := mg (List.mem_of_getElem? (i := 134) (by decide +kernel)) rfl
theorem tb_135 : Cond.fieldLink RX6 24 "WardWatch$Planner" "plans" "[J" ∈ gw_tbl := mg (List.mem_of_getElem? (i := 135) (by decide +kernel)) rfl
theorem tb_136 : Cond.fieldLink RX6 28 "WardWatch$Planner" "ones" "[J" ∈ gw_tbl := mg (List.mem_of_getElem? (i := 136) (by decide +kernel)) rfl
theorem tb_137 : Cond.fieldLink RX6 57 "WardWatch$Planner" "places" "I" ∈ gw_tbl := mg (List.mem_of_getElem? (i := 137) (by decide +kernel)) rfl
theorem tb_138 : Cond.fieldLink RX6 72 "WardWatch$Planner" "men" "I" ∈ gw_tbl := mg (List.mem_of_getElem? (i := 138) (by decide +kernel)) rfl
theorem tb_139 : Cond.fieldLink RX6 75 "WardWatch$Planner" "sum" "I" ∈ gw_tbl := mg (List.mem_of_getElem? (i := 139) (by decide +kernel)) rfl
theorem tb_140 : Cond.fieldLink RX6 31 "WardWatch$Planner" "manOf" "[I" ∈ gw_tbl := mg (List.mem_of_getElem? (i := 140) (by decide +kernel)) rfl
theorem tb_141 : Cond.fieldLink RX6 34 "WardWatch$Planner" "lengths" "[I" ∈ gw_tbl := mg (List.mem_of_getElem? (i := 141) (by decide +kernel)) rfl
theorem tb_142 : Cond.fieldLink RX6 37 "WardWatch$Planner" "courtsOf" "[I" ∈ gw_tbl := mg (List.mem_of_getElem? (i := 142) (by decide +kernel)) rfl
theorem tb_175 : Cond.fieldLink RX3 15 "WardWatch$LawReader" "tape" "LWardWatch$Tape;" ∈ gw_tbl := mg (List.mem_of_getElem? (i := 175) (by decide +kernel)) rfl
theorem tb_176 : Cond.fieldLink RX3 36 "WardWatch$LawReader" "kind" "I" ∈ gw_tbl := mg (List.mem_of_getElem? (i := 176) (by decide +kernel)) rfl
theorem tb_177 : Cond.fieldLink RX3 140 "WardWatch$LawReader" "start" "I" ∈ gw_tbl := mg (List.mem_of_getElem? (i := 177) (by decide +kernel)) rfl
theorem tb_178 : Cond.fieldLink RX3 22 "WardWatch$LawReader" "stop" "I" ∈ gw_tbl := mg (List.mem_of_getElem? (i := 178) (by decide +kernel)) rfl
theorem tb_179 : Cond.fieldLink RX3 133 "WardWatch$LawReader" "value" "I" ∈ gw_tbl := mg (List.mem_of_getElem? (i := 179) (by decide +kernel)) rfl
theorem tb_180 : Cond.fieldLink RX3 25 "WardWatch$LawReader" "linesTold" "I" ∈ gw_tbl := mg (List.mem_of_getElem? (i := 180) (by decide +kernel)) rfl
theorem tb_181 : Cond.fieldLink RX3 19 "WardWatch$LawReader" "faultKind" "I" ∈ gw_tbl := mg (List.mem_of_getElem? (i := 181) (by decide +kernel)) rfl
theorem tb_182 : Cond.fieldLink RX3 9 "WardWatch$LawReader" "faultPlace" "I" ∈ gw_tbl := mg (List.mem_of_getElem? (i := 182) (by decide +kernel)) rfl
theorem tb_210 : Cond.fieldLink RX7 13 "WardWatch$Roll" "houses" "[LWardWatch$House;" ∈ gw_tbl := mg (List.mem_of_getElem? (i := 210) (by decide +kernel)) rfl
theorem tb_211 : Cond.fieldLink RX7 17 "WardWatch$Roll" "size" "I" ∈ gw_tbl := mg (List.mem_of_getElem? (i := 211) (by decide +kernel)) rfl
theorem tb_225 : Cond.fieldLink RX5 13 "WardWatch$Nights" "charges" "[LWardWatch$Charge;" ∈ gw_tbl := mg (List.mem_of_getElem? (i := 225) (by decide +kernel)) rfl
theorem tb_226 : Cond.fieldLink RX5 17 "WardWatch$Nights" "size" "I" ∈ gw_tbl := mg (List.mem_of_getElem? (i := 226) (by decide +kernel)) rfl
theorem tb_238 : Cond.fieldLink RX1 11 "WardWatch$Flight" "row" "[I" ∈ gw_tbl := mg (List.mem_of_getElem? (i := 238) (by decide +kernel)) rfl
theorem tb_239 : Cond.fieldLink RX1 25 "WardWatch$Flight" "courts" "I" ∈ gw_tbl := mg (List.mem_of_getElem? (i := 239) (by decide +kernel)) rfl
theorem tb_240 : Cond.fieldLink RX1 49 "WardWatch$Flight" "minutes" "I" ∈ gw_tbl := mg (List.mem_of_getElem? (i := 240) (by decide +kernel)) rfl
theorem tb_241 : Cond.fieldLink RX1 15 "WardWatch$Flight" "lastCourt" "I" ∈ gw_tbl := mg (List.mem_of_getElem? (i := 241) (by decide +kernel)) rfl
theorem tb_258 : Cond.instanceMethod yX4_forget ∈ gw_tbl := mg (List.mem_of_getElem? (i := 258) (by decide +kernel)) rfl
theorem tb_259 : Cond.selects RX4 yX4_forget yX4_forget ∈ gw_tbl := mg (List.mem_of_getElem? (i := 259) (by decide +kernel)) rfl
theorem tb_260 : Cond.code yX4_forget cX4_forget 1 none ∈ gw_tbl := mg (List.mem_of_getElem? (i := 260) (by decide +kernel)) rfl
theorem tb_261 : Cond.fieldLink RX4 28 "WardWatch$Laws" "ageFrom" "I" ∈ gw_tbl := mg (List.mem_of_getElem? (i := 261) (by decide +kernel)) rfl
theorem tb_262 : Cond.fieldLinkNest RX2 29 "WardWatch$Laws" "ageFrom" "I" "WardWatch" ∈ lw_tbl := List.mem_of_getElem? (i := 262) (by decide +kernel)
theorem tb_263 : Cond.fieldLinkNest RX3 66 "WardWatch$Laws" "ageFrom" "I" "WardWatch" ∈ lw_tbl := List.mem_of_getElem? (i := 263) (by decide +kernel)
theorem tb_264 : Cond.fieldLink RX4 32 "WardWatch$Laws" "ageTo" "I" ∈ gw_tbl := mg (List.mem_of_getElem? (i := 264) (by decide +kernel)) rfl
theorem tb_265 : Cond.fieldLinkNest RX2 32 "WardWatch$Laws" "ageTo" "I" "WardWatch" ∈ lw_tbl := List.mem_of_getElem? (i := 265) (by decide +kernel)
theorem tb_266 : Cond.fieldLinkNest RX3 69 "WardWatch$Laws" "ageTo" "I" "WardWatch" ∈ lw_tbl := List.mem_of_getElem? (i := 266) (by decide +kernel)
theorem tb_267 : Cond.fieldLink RX4 35 "WardWatch$Laws" "leave" "I" ∈ gw_tbl := mg (List.mem_of_getElem? (i := 267) (by decide +kernel)) rfl
theorem tb_268 : Cond.fieldLinkNest RX2 24 "WardWatch$Laws" "leave" "I" "WardWatch" ∈ lw_tbl := List.mem_of_getElem? (i := 268) (by decide +kernel)
theorem tb_269 : Cond.fieldLinkNest RX3 74 "WardWatch$Laws" "leave" "I" "WardWatch" ∈ lw_tbl := List.mem_of_getElem? (i := 269) (by decide +kernel)
theorem tb_270 : Cond.fieldLink RX4 38 "WardWatch$Laws" "fine" "I" ∈ gw_tbl := mg (List.mem_of_getElem? (i := 270) (by decide +kernel)) rfl
theorem tb_271 : Cond.fieldLinkNest RX2 45 "WardWatch$Laws" "fine" "I" "WardWatch" ∈ lw_tbl := List.mem_of_getElem? (i := 271) (by decide +kernel)
theorem tb_272 : Cond.fieldLinkNest RX10 52 "WardWatch$Laws" "fine" "I" "WardWatch" ∈ lw_tbl := List.mem_of_getElem? (i := 272) (by decide +kernel)
theorem tb_273 : Cond.fieldLinkNest RX3 78 "WardWatch$Laws" "fine" "I" "WardWatch" ∈ lw_tbl := List.mem_of_getElem? (i := 273) (by decide +kernel)
theorem tb_274 : Cond.fieldLinkNest RX7 58 "WardWatch$Laws" "fine" "I" "WardWatch" ∈ lw_tbl := List.mem_of_getElem? (i := 274) (by decide +kernel)
theorem tb_275 : Cond.fieldLink RX4 41 "WardWatch$Laws" "hire" "I" ∈ gw_tbl := mg (List.mem_of_getElem? (i := 275) (by decide +kernel)) rfl
theorem tb_276 : Cond.fieldLinkNest RX2 39 "WardWatch$Laws" "hire" "I" "WardWatch" ∈ lw_tbl := List.mem_of_getElem? (i := 276) (by decide +kernel)
theorem tb_277 : Cond.fieldLinkNest RX3 82 "WardWatch$Laws" "hire" "I" "WardWatch" ∈ lw_tbl := List.mem_of_getElem? (i := 277) (by decide +kernel)
theorem tb_278 : Cond.fieldLinkNest RX7 69 "WardWatch$Laws" "hire" "I" "WardWatch" ∈ lw_tbl := List.mem_of_getElem? (i := 278) (by decide +kernel)
theorem tb_279 : Cond.fieldLink RX4 44 "WardWatch$Laws" "follow" "I" ∈ gw_tbl := mg (List.mem_of_getElem? (i := 279) (by decide +kernel)) rfl
theorem tb_280 : Cond.fieldLinkNest RX1 64 "WardWatch$Laws" "follow" "I" "WardWatch" ∈ lw_tbl := List.mem_of_getElem? (i := 280) (by decide +kernel)
theorem tb_281 : Cond.fieldLinkNest RX3 91 "WardWatch$Laws" "follow" "I" "WardWatch" ∈ lw_tbl := List.mem_of_getElem? (i := 281) (by decide +kernel)
theorem tb_282 : Cond.fieldLink RX4 47 "WardWatch$Laws" "followNeedsCry" "Z" ∈ gw_tbl := mg (List.mem_of_getElem? (i := 282) (by decide +kernel)) rfl
theorem tb_283 : Cond.fieldLinkNest RX3 97 "WardWatch$Laws" "followNeedsCry" "Z" "WardWatch" ∈ lw_tbl := List.mem_of_getElem? (i := 283) (by decide +kernel)
theorem tb_284 : Cond.fieldLinkNest RX10 42 "WardWatch$Laws" "lockup" "I" "WardWatch" ∈ lw_tbl := List.mem_of_getElem? (i := 284) (by decide +kernel)
theorem tb_285 : Cond.fieldLink RX4 51 "WardWatch$Laws" "lockup" "I" ∈ gw_tbl := mg (List.mem_of_getElem? (i := 285) (by decide +kernel)) rfl
theorem tb_286 : Cond.fieldLinkNest RX3 103 "WardWatch$Laws" "lockup" "I" "WardWatch" ∈ lw_tbl := List.mem_of_getElem? (i := 286) (by decide +kernel)
theorem tb_287 : Cond.fieldLink RX4 54 "WardWatch$Laws" "powers" "I" ∈ gw_tbl := mg (List.mem_of_getElem? (i := 287) (by decide +kernel)) rfl
theorem tb_288 : Cond.fieldLink RX4 11 "WardWatch$Laws" "power" "[I" ∈ gw_tbl := mg (List.mem_of_getElem? (i := 288) (by decide +kernel)) rfl
theorem tb_289 : Cond.fieldLink RX4 15 "WardWatch$Laws" "from" "[I" ∈ gw_tbl := mg (List.mem_of_getElem? (i := 289) (by decide +kernel)) rfl
theorem tb_290 : Cond.fieldLink RX4 18 "WardWatch$Laws" "to" "[I" ∈ gw_tbl := mg (List.mem_of_getElem? (i := 290) (by decide +kernel)) rfl
theorem tb_291 : Cond.fieldLink RX4 21 "WardWatch$Laws" "needsCry" "[Z" ∈ gw_tbl := mg (List.mem_of_getElem? (i := 291) (by decide +kernel)) rfl
theorem tb_327 : Cond.fieldLink RX10 12 "WardWatch$Ward" "laws" "LWardWatch$Laws;" ∈ gw_tbl := mg (List.mem_of_getElem? (i := 327) (by decide +kernel)) rfl
theorem tb_328 : Cond.fieldLinkNest RX1 52 "WardWatch$Ward" "laws" "LWardWatch$Laws;" "WardWatch" ∈ lw_tbl := List.mem_of_getElem? (i := 328) (by decide +kernel)
theorem tb_329 : Cond.fieldLinkNest RX5 24 "WardWatch$Ward" "laws" "LWardWatch$Laws;" "WardWatch" ∈ lw_tbl := List.mem_of_getElem? (i := 329) (by decide +kernel)
theorem tb_330 : Cond.fieldLinkNest RX7 36 "WardWatch$Ward" "laws" "LWardWatch$Laws;" "WardWatch" ∈ lw_tbl := List.mem_of_getElem? (i := 330) (by decide +kernel)
theorem tb_331 : Cond.fieldLinkNest RX11 134 "WardWatch$Ward" "laws" "LWardWatch$Laws;" "WardWatch" ∈ lw_tbl := List.mem_of_getElem? (i := 331) (by decide +kernel)
theorem tb_332 : Cond.fieldLink RX10 49 "WardWatch$Ward" "chest" "I" ∈ gw_tbl := mg (List.mem_of_getElem? (i := 332) (by decide +kernel)) rfl
theorem tb_333 : Cond.fieldLinkNest RX5 49 "WardWatch$Ward" "chest" "I" "WardWatch" ∈ lw_tbl := List.mem_of_getElem? (i := 333) (by decide +kernel)
theorem tb_334 : Cond.fieldLinkNest RX11 229 "WardWatch$Ward" "chest" "I" "WardWatch" ∈ lw_tbl := List.mem_of_getElem? (i := 334) (by decide +kernel)
theorem tb_335 : Cond.fieldLink RX10 39 "WardWatch$Ward" "lying" "I" ∈ gw_tbl := mg (List.mem_of_getElem? (i := 335) (by decide +kernel)) rfl
theorem tb_336 : Cond.fieldLinkNest RX5 63 "WardWatch$Ward" "lying" "I" "WardWatch" ∈ lw_tbl := List.mem_of_getElem? (i := 336) (by decide +kernel)
theorem tb_337 : Cond.fieldLinkNest RX11 196 "WardWatch$Ward" "lying" "I" "WardWatch" ∈ lw_tbl := List.mem_of_getElem? (i := 337) (by decide +kernel)
theorem tb_339 : Cond.fieldLinkNest RX7 30 "WardWatch$Ward" "turn" "I" "WardWatch" ∈ lw_tbl := List.mem_of_getElem? (i := 339) (by decide +kernel)
theorem tb_340 : Cond.fieldLink RX10 22 "WardWatch$Ward" "firstYear" "I" ∈ gw_tbl := mg (List.mem_of_getElem? (i := 340) (by decide +kernel)) rfl
theorem tb_341 : Cond.fieldLink RX10 25 "WardWatch$Ward" "latestYear" "I" ∈ gw_tbl := mg (List.mem_of_getElem? (i := 341) (by decide +kernel)) rfl
theorem tb_342 : Cond.fieldLinkNest RX11 232 "WardWatch$Ward" "latestYear" "I" "WardWatch" ∈ lw_tbl := List.mem_of_getElem? (i := 342) (by decide +kernel)
theorem tb_343 : Cond.fieldLink RX10 28 "WardWatch$Ward" "constables" "[I" ∈ gw_tbl := mg (List.mem_of_getElem? (i := 343) (by decide +kernel)) rfl
theorem tb_344 : Cond.fieldLink RX10 32 "WardWatch$Ward" "hired" "[Z" ∈ gw_tbl := mg (List.mem_of_getElem? (i := 344) (by decide +kernel)) rfl
theorem tb_345 : Cond.fieldLink RX10 36 "WardWatch$Ward" "payers" "[I" ∈ gw_tbl := mg (List.mem_of_getElem? (i := 345) (by decide +kernel)) rfl
theorem tb_365 : Cond.fieldLink RX11 10 "WardWatch" "tape" "LWardWatch$Tape;" ∈ gw_tbl := mg (List.mem_of_getElem? (i := 365) (by decide +kernel)) rfl
theorem tb_366 : Cond.fieldLink RX11 19 "WardWatch" "town" "LWardWatch$Town;" ∈ gw_tbl := mg (List.mem_of_getElem? (i := 366) (by decide +kernel)) rfl
theorem tb_367 : Cond.fieldLink RX11 26 "WardWatch" "planner" "LWardWatch$Planner;" ∈ gw_tbl := mg (List.mem_of_getElem? (i := 367) (by decide +kernel)) rfl
theorem tb_368 : Cond.fieldLink RX11 35 "WardWatch" "reader" "LWardWatch$LawReader;" ∈ gw_tbl := mg (List.mem_of_getElem? (i := 368) (by decide +kernel)) rfl
theorem tb_369 : Cond.fieldLink RX11 41 "WardWatch" "wards" "[LWardWatch$Ward;" ∈ gw_tbl := mg (List.mem_of_getElem? (i := 369) (by decide +kernel)) rfl
theorem tb_370 : Cond.fieldLink RX11 48 "WardWatch" "roll" "LWardWatch$Roll;" ∈ gw_tbl := mg (List.mem_of_getElem? (i := 370) (by decide +kernel)) rfl
theorem tb_371 : Cond.fieldLink RX11 55 "WardWatch" "nights" "LWardWatch$Nights;" ∈ gw_tbl := mg (List.mem_of_getElem? (i := 371) (by decide +kernel)) rfl
theorem tb_372 : Cond.fieldLink RX11 62 "WardWatch" "flight" "LWardWatch$Flight;" ∈ gw_tbl := mg (List.mem_of_getElem? (i := 372) (by decide +kernel)) rfl
theorem tb_373 : Cond.fieldLink RX11 69 "WardWatch" "draft" "LWardWatch$Laws;" ∈ gw_tbl := mg (List.mem_of_getElem? (i := 373) (by decide +kernel)) rfl
theorem tb_397 : Cond.methodLink RX11 74 yX8_hasRoomFor ∈ gw_tbl := mg (List.mem_of_getElem? (i := 397) (by decide +kernel)) rfl
theorem tb_398 : Cond.instanceMethod yX8_hasRoomFor ∈ gw_tbl := mg (List.mem_of_getElem? (i := 398) (by decide +kernel)) rfl
theorem tb_399 : Cond.selects RX8 yX8_hasRoomFor yX8_hasRoomFor ∈ gw_tbl := mg (List.mem_of_getElem? (i := 399) (by decide +kernel)) rfl
theorem tb_400 : Cond.code yX8_hasRoomFor cX8_hasRoomFor 2 (some .boolean) ∈ gw_tbl := mg (List.mem_of_getElem? (i := 400) (by decide +kernel)) rfl
theorem tb_401 : Cond.methodLink RX11 78 yX8_append ∈ gw_tbl := mg (List.mem_of_getElem? (i := 401) (by decide +kernel)) rfl
theorem tb_402 : Cond.instanceMethod yX8_append ∈ gw_tbl := mg (List.mem_of_getElem? (i := 402) (by decide +kernel)) rfl
theorem tb_403 : Cond.selects RX8 yX8_append yX8_append ∈ gw_tbl := mg (List.mem_of_getElem? (i := 403) (by decide +kernel)) rfl
theorem tb_404 : Cond.code yX8_append cX8_append 3 none ∈ gw_tbl := mg (List.mem_of_getElem? (i := 404) (by decide +kernel)) rfl
theorem tb_405 : Cond.methodLink RX11 82 yX8_length ∈ gw_tbl := mg (List.mem_of_getElem? (i := 405) (by decide +kernel)) rfl
theorem tb_406 : Cond.instanceMethod yX8_length ∈ gw_tbl := mg (List.mem_of_getElem? (i := 406) (by decide +kernel)) rfl
theorem tb_407 : Cond.selects RX8 yX8_length yX8_length ∈ gw_tbl := mg (List.mem_of_getElem? (i := 407) (by decide +kernel)) rfl
theorem tb_408 : Cond.code yX8_length cX8_length 1 (some .int) ∈ gw_tbl := mg (List.mem_of_getElem? (i := 408) (by decide +kernel)) rfl
theorem tb_413 : Cond.methodLink RX11 86 yX8_cut ∈ gw_tbl := mg (List.mem_of_getElem? (i := 413) (by decide +kernel)) rfl
theorem tb_414 : Cond.instanceMethod yX8_cut ∈ gw_tbl := mg (List.mem_of_getElem? (i := 414) (by decide +kernel)) rfl
theorem tb_415 : Cond.selects RX8 yX8_cut yX8_cut ∈ gw_tbl := mg (List.mem_of_getElem? (i := 415) (by decide +kernel)) rfl
theorem tb_416 : Cond.code yX8_cut cX8_cut 2 none ∈ gw_tbl := mg (List.mem_of_getElem? (i := 416) (by decide +kernel)) rfl
theorem tb_421 : Cond.methodLink RX11 89 yX11_isCourt ∈ gw_tbl := mg (List.mem_of_getElem? (i := 421) (by decide +kernel)) rfl
theorem tb_422 : Cond.static yX11_isCourt ∈ gw_tbl := mg (List.mem_of_getElem? (i := 422) (by decide +kernel)) rfl
theorem tb_423 : Cond.code yX11_isCourt cX11_isCourt 1 (some .boolean) ∈ gw_tbl := mg (List.mem_of_getElem? (i := 423) (by decide +kernel)) rfl
theorem tb_424 : Cond.methodLink RX11 95 yX11_isFrom ∈ gw_tbl := mg (List.mem_of_getElem? (i := 424) (by decide +kernel)) rfl
theorem tb_425 : Cond.static yX11_isFrom ∈ gw_tbl := mg (List.mem_of_getElem? (i := 425) (by decide +kernel)) rfl
theorem tb_426 : Cond.code yX11_isFrom cX11_isFrom 3 (some .boolean) ∈ gw_tbl := mg (List.mem_of_getElem? (i := 426) (by decide +kernel)) rfl
theorem tb_427 : Cond.methodLink RX11 92 yX11_isWard ∈ gw_tbl := mg (List.mem_of_getElem? (i := 427) (by decide +kernel)) rfl
theorem tb_428 : Cond.static yX11_isWard ∈ gw_tbl := mg (List.mem_of_getElem? (i := 428) (by decide +kernel)) rfl
theorem tb_429 : Cond.code yX11_isWard cX11_isWard 1 (some .boolean) ∈ gw_tbl := mg (List.mem_of_getElem? (i := 429) (by decide +kernel)) rfl
theorem tb_430 : Cond.methodLink RX11 99 yX9_place ∈ gw_tbl := mg (List.mem_of_getElem? (i := 430) (by decide +kernel)) rfl
theorem tb_431 : Cond.instanceMethod yX9_place ∈ gw_tbl := mg (List.mem_of_getElem? (i := 431) (by decide +kernel)) rfl
theorem tb_432 : Cond.selects RX9 yX9_place yX9_place ∈ gw_tbl := mg (List.mem_of_getElem? (i := 432) (by decide +kernel)) rfl
theorem tb_433 : Cond.code yX9_place cX9_place 4 none ∈ gw_tbl := mg (List.mem_of_getElem? (i := 433) (by decide +kernel)) rfl
theorem tb_438 : Cond.methodLink RX11 103 yX9_minutesOfWay ∈ gw_tbl := mg (List.mem_of_getElem? (i := 438) (by decide +kernel)) rfl
theorem tb_439 : Cond.instanceMethod yX9_minutesOfWay ∈ gw_tbl := mg (List.mem_of_getElem? (i := 439) (by decide +kernel)) rfl
theorem tb_440 : Cond.selects RX9 yX9_minutesOfWay yX9_minutesOfWay ∈ gw_tbl := mg (List.mem_of_getElem? (i := 440) (by decide +kernel)) rfl
theorem tb_441 : Cond.code yX9_minutesOfWay cX9_minutesOfWay 3 (some .int) ∈ gw_tbl := mg (List.mem_of_getElem? (i := 441) (by decide +kernel)) rfl
theorem tb_442 : Cond.methodLink RX11 107 yX9_setWay ∈ gw_tbl := mg (List.mem_of_getElem? (i := 442) (by decide +kernel)) rfl
theorem tb_443 : Cond.instanceMethod yX9_setWay ∈ gw_tbl := mg (List.mem_of_getElem? (i := 443) (by decide +kernel)) rfl
theorem tb_444 : Cond.selects RX9 yX9_setWay yX9_setWay ∈ gw_tbl := mg (List.mem_of_getElem? (i := 444) (by decide +kernel)) rfl
theorem tb_445 : Cond.code yX9_setWay cX9_setWay 4 none ∈ gw_tbl := mg (List.mem_of_getElem? (i := 445) (by decide +kernel)) rfl
theorem tb_450 : Cond.methodLink RX11 110 yX9_leastMinutes ∈ gw_tbl := mg (List.mem_of_getElem? (i := 450) (by decide +kernel)) rfl
theorem tb_451 : Cond.instanceMethod yX9_leastMinutes ∈ gw_tbl := mg (List.mem_of_getElem? (i := 451) (by decide +kernel)) rfl
theorem tb_452 : Cond.selects RX9 yX9_leastMinutes yX9_leastMinutes ∈ gw_tbl := mg (List.mem_of_getElem? (i := 452) (by decide +kernel)) rfl
theorem tb_453 : Cond.code yX9_leastMinutes cX9_leastMinutes 3 (some .int) ∈ gw_tbl := mg (List.mem_of_getElem? (i := 453) (by decide +kernel)) rfl
theorem tb_454 : Cond.methodLink RX9 34 yX9_measure ∈ gw_tbl := mg (List.mem_of_getElem? (i := 454) (by decide +kernel)) rfl
theorem tb_456 : Cond.instanceMethod yX9_measure ∈ gw_tbl := mg (List.mem_of_getElem? (i := 456) (by decide +kernel)) rfl
theorem tb_457 : Cond.code yX9_measure cX9_measure 3 none ∈ gw_tbl := mg (List.mem_of_getElem? (i := 457) (by decide +kernel)) rfl
theorem tb_458 : Cond.methodLink RX9 37 arraycopyName ∈ gw_tbl := mg (List.mem_of_getElem? (i := 458) (by decide +kernel)) rfl
theorem tb_459 : Cond.static arraycopyName ∈ gw_tbl := mg (List.mem_of_getElem? (i := 459) (by decide +kernel)) rfl
theorem tb_460 : Cond.native arraycopyName ∈ gw_tbl := mg (List.mem_of_getElem? (i := 460) (by decide +kernel)) rfl
theorem tb_461 : Cond.methodLink RX9 43 yX9_shortenFrom ∈ gw_tbl := mg (List.mem_of_getElem? (i := 461) (by decide +kernel)) rfl
theorem tb_463 : Cond.instanceMethod yX9_shortenFrom ∈ gw_tbl := mg (List.mem_of_getElem? (i := 463) (by decide +kernel)) rfl
theorem tb_464 : Cond.code yX9_shortenFrom cX9_shortenFrom 7 none ∈ gw_tbl := mg (List.mem_of_getElem? (i := 464) (by decide +kernel)) rfl
theorem tb_469 : Cond.methodLink RX11 113 yJ6_bitCount_0f7a4 ∈ gw_tbl := mg (List.mem_of_getElem? (i := 469) (by decide +kernel)) rfl
theorem tb_470 : Cond.static yJ6_bitCount_0f7a4 ∈ gw_tbl := mg (List.mem_of_getElem? (i := 470) (by decide +kernel)) rfl
theorem tb_471 : Cond.code yJ6_bitCount_0f7a4 cJ6_bitCount_0f7a4 1 (some .int) ∈ gw_tbl := mg (List.mem_of_getElem? (i := 471) (by decide +kernel)) rfl
theorem tb_472 : Cond.constant RJ6 265 (1431655765) ∈ gw_tbl := mg (List.mem_of_getElem? (i := 472) (by decide +kernel)) rfl
theorem tb_473 : Cond.constant RJ6 266 (858993459) ∈ gw_tbl := mg (List.mem_of_getElem? (i := 473) (by decide +kernel)) rfl
theorem tb_474 : Cond.constant RJ6 267 (252645135) ∈ gw_tbl := mg (List.mem_of_getElem? (i := 474) (by decide +kernel)) rfl
theorem tb_475 : Cond.methodLink RX11 119 yX6_plan ∈ gw_tbl := mg (List.mem_of_getElem? (i := 475) (by decide +kernel)) rfl
theorem tb_476 : Cond.instanceMethod yX6_plan ∈ gw_tbl := mg (List.mem_of_getElem? (i := 476) (by decide +kernel)) rfl
theorem tb_477 : Cond.selects RX6 yX6_plan yX6_plan ∈ gw_tbl := mg (List.mem_of_getElem? (i := 477) (by decide +kernel)) rfl
theorem tb_478 : Cond.code yX6_plan cX6_plan 4 (some .int) ∈ gw_tbl := mg (List.mem_of_getElem? (i := 478) (by decide +kernel)) rfl
theorem tb_479 : Cond.methodLink RX6 49 yX6_listCourts ∈ gw_tbl := mg (List.mem_of_getElem? (i := 479) (by decide +kernel)) rfl
theorem tb_481 : Cond.instanceMethod yX6_listCourts ∈ gw_tbl := mg (List.mem_of_getElem? (i := 481) (by decide +kernel)) rfl
theorem tb_482 : Cond.code yX6_listCourts cX6_listCourts 3 none ∈ gw_tbl := mg (List.mem_of_getElem? (i := 482) (by decide +kernel)) rfl
theorem tb_483 : Cond.methodLink RX6 53 yX6_measureSteps ∈ gw_tbl := mg (List.mem_of_getElem? (i := 483) (by decide +kernel)) rfl
theorem tb_485 : Cond.instanceMethod yX6_measureSteps ∈ gw_tbl := mg (List.mem_of_getElem? (i := 485) (by decide +kernel)) rfl
theorem tb_486 : Cond.code yX6_measureSteps cX6_measureSteps 5 none ∈ gw_tbl := mg (List.mem_of_getElem? (i := 486) (by decide +kernel)) rfl
theorem tb_487 : Cond.methodLink RX6 82 yX9_leastMinutes ∈ gw_tbl := mg (List.mem_of_getElem? (i := 487) (by decide +kernel)) rfl
theorem tb_488 : Cond.constant RX6 88 (100000) ∈ gw_tbl := mg (List.mem_of_getElem? (i := 488) (by decide +kernel)) rfl
theorem tb_489 : Cond.methodLink RX6 61 yX6_measureTours ∈ gw_tbl := mg (List.mem_of_getElem? (i := 489) (by decide +kernel)) rfl
theorem tb_491 : Cond.instanceMethod yX6_measureTours ∈ gw_tbl := mg (List.mem_of_getElem? (i := 491) (by decide +kernel)) rfl
theorem tb_492 : Cond.code yX6_measureTours cX6_measureTours 7 none ∈ gw_tbl := mg (List.mem_of_getElem? (i := 492) (by decide +kernel)) rfl
theorem tb_493 : Cond.methodLink RX6 89 yX6_shortestTour ∈ gw_tbl := mg (List.mem_of_getElem? (i := 493) (by decide +kernel)) rfl
theorem tb_495 : Cond.instanceMethod yX6_shortestTour ∈ gw_tbl := mg (List.mem_of_getElem? (i := 495) (by decide +kernel)) rfl
theorem tb_496 : Cond.code yX6_shortestTour cX6_shortestTour 7 (some .int) ∈ gw_tbl := mg (List.mem_of_getElem? (i := 496) (by decide +kernel)) rfl
theorem tb_497 : Cond.methodLink RX6 97 yX6_shortestPath ∈ gw_tbl := mg (List.mem_of_getElem? (i := 497) (by decide +kernel)) rfl
theorem tb_499 : Cond.instanceMethod yX6_shortestPath ∈ gw_tbl := mg (List.mem_of_getElem? (i := 499) (by decide +kernel)) rfl
theorem tb_500 : Cond.code yX6_shortestPath cX6_shortestPath 9 (some .int) ∈ gw_tbl := mg (List.mem_of_getElem? (i := 500) (by decide +kernel)) rfl
theorem tb_501 : Cond.methodLink RX6 101 Lib.Math.min.name ∈ gw_tbl := mg (List.mem_of_getElem? (i := 501) (by decide +kernel)) rfl
theorem tb_502 : Cond.static Lib.Math.min.name ∈ gw_tbl := mg (List.mem_of_getElem? (i := 502) (by decide +kernel)) rfl
theorem tb_503 : Cond.code Lib.Math.min.name Lib.Math.min.code 2 (some .int) ∈ gw_tbl := mg (List.mem_of_getElem? (i := 503) (by decide +kernel)) rfl
theorem tb_504 : Cond.methodLink RX6 93 yX6_leastWithin ∈ gw_tbl := mg (List.mem_of_getElem? (i := 504) (by decide +kernel)) rfl
theorem tb_506 : Cond.instanceMethod yX6_leastWithin ∈ gw_tbl := mg (List.mem_of_getElem? (i := 506) (by decide +kernel)) rfl
theorem tb_507 : Cond.code yX6_leastWithin cX6_leastWithin 5 (some .int) ∈ gw_tbl := mg (List.mem_of_getElem? (i := 507) (by decide +kernel)) rfl
theorem tb_508 : Cond.methodLink RX6 106 yX9_withinAt ∈ gw_tbl := mg (List.mem_of_getElem? (i := 508) (by decide +kernel)) rfl
theorem tb_509 : Cond.instanceMethod yX9_withinAt ∈ gw_tbl := mg (List.mem_of_getElem? (i := 509) (by decide +kernel)) rfl
theorem tb_510 : Cond.selects RX9 yX9_withinAt yX9_withinAt ∈ gw_tbl := mg (List.mem_of_getElem? (i := 510) (by decide +kernel)) rfl
theorem tb_511 : Cond.code yX9_withinAt cX9_withinAt 2 (some .int) ∈ gw_tbl := mg (List.mem_of_getElem? (i := 511) (by decide +kernel)) rfl
theorem tb_512 : Cond.methodLink RX6 65 yX6_joinParts ∈ gw_tbl := mg (List.mem_of_getElem? (i := 512) (by decide +kernel)) rfl
theorem tb_514 : Cond.instanceMethod yX6_joinParts ∈ gw_tbl := mg (List.mem_of_getElem? (i := 514) (by decide +kernel)) rfl
theorem tb_515 : Cond.code yX6_joinParts cX6_joinParts 2 none ∈ gw_tbl := mg (List.mem_of_getElem? (i := 515) (by decide +kernel)) rfl
theorem tb_516 : Cond.methodLink RX6 109 yX6_bestPlan ∈ gw_tbl := mg (List.mem_of_getElem? (i := 516) (by decide +kernel)) rfl
theorem tb_518 : Cond.instanceMethod yX6_bestPlan ∈ gw_tbl := mg (List.mem_of_getElem? (i := 518) (by decide +kernel)) rfl
theorem tb_519 : Cond.code yX6_bestPlan cX6_bestPlan 10 (some .long) ∈ gw_tbl := mg (List.mem_of_getElem? (i := 519) (by decide +kernel)) rfl
theorem tb_520 : Cond.constantLong RX6 115 (9223372036854775807) ∈ gw_tbl := mg (List.mem_of_getElem? (i := 520) (by decide +kernel)) rfl
theorem tb_521 : Cond.constantLong RX6 117 (18014398509481984) ∈ gw_tbl := mg (List.mem_of_getElem? (i := 521) (by decide +kernel)) rfl
theorem tb_522 : Cond.methodLink RX6 119 Lib.MathLoose.min_long.x ∈ gw_tbl := mg (List.mem_of_getElem? (i := 522) (by decide +kernel)) rfl
theorem tb_523 : Cond.static Lib.MathLoose.min_long.x ∈ gw_tbl := mg (List.mem_of_getElem? (i := 523) (by decide +kernel)) rfl
theorem tb_524 : Cond.code Lib.MathLoose.min_long.x Lib.MathLoose.min_long.code 4 (some .long) ∈ gw_tbl := mg (List.mem_of_getElem? (i := 524) (by decide +kernel)) rfl
theorem tb_525 : Cond.methodLink RX6 68 yX6_keepPlan ∈ gw_tbl := mg (List.mem_of_getElem? (i := 525) (by decide +kernel)) rfl
theorem tb_527 : Cond.instanceMethod yX6_keepPlan ∈ gw_tbl := mg (List.mem_of_getElem? (i := 527) (by decide +kernel)) rfl
theorem tb_528 : Cond.code yX6_keepPlan cX6_keepPlan 4 none ∈ gw_tbl := mg (List.mem_of_getElem? (i := 528) (by decide +kernel)) rfl
theorem tb_529 : Cond.methodLink RX6 122 yJ7_fill_53178 ∈ gw_tbl := mg (List.mem_of_getElem? (i := 529) (by decide +kernel)) rfl
theorem tb_530 : Cond.methodLink RX6 128 yX6_keepPartOf ∈ gw_tbl := mg (List.mem_of_getElem? (i := 530) (by decide +kernel)) rfl
theorem tb_532 : Cond.instanceMethod yX6_keepPartOf ∈ gw_tbl := mg (List.mem_of_getElem? (i := 532) (by decide +kernel)) rfl
theorem tb_533 : Cond.code yX6_keepPartOf cX6_keepPartOf 7 (some .int) ∈ gw_tbl := mg (List.mem_of_getElem? (i := 533) (by decide +kernel)) rfl
theorem tb_538 : Cond.methodLink RX11 123 yX6_tell ∈ gw_tbl := mg (List.mem_of_getElem? (i := 538) (by decide +kernel)) rfl
theorem tb_539 : Cond.instanceMethod yX6_tell ∈ gw_tbl := mg (List.mem_of_getElem? (i := 539) (by decide +kernel)) rfl
theorem tb_540 : Cond.selects RX6 yX6_tell yX6_tell ∈ gw_tbl := mg (List.mem_of_getElem? (i := 540) (by decide +kernel)) rfl
theorem tb_541 : Cond.code yX6_tell cX6_tell 2 (some .int) ∈ gw_tbl := mg (List.mem_of_getElem? (i := 541) (by decide +kernel)) rfl
theorem tb_542 : Cond.methodLinkNest RX6 78 yX11_isFrom "WardWatch" ∈ lw_tbl := List.mem_of_getElem? (i := 542) (by decide +kernel)
theorem tb_551 : Cond.methodLink RX11 126 yX3_read ∈ gw_tbl := mg (List.mem_of_getElem? (i := 551) (by decide +kernel)) rfl
theorem tb_552 : Cond.instanceMethod yX3_read ∈ gw_tbl := mg (List.mem_of_getElem? (i := 552) (by decide +kernel)) rfl
theorem tb_553 : Cond.selects RX3 yX3_read yX3_read ∈ gw_tbl := mg (List.mem_of_getElem? (i := 553) (by decide +kernel)) rfl
theorem tb_554 : Cond.code yX3_read cX3_read 3 (some .int) ∈ gw_tbl := mg (List.mem_of_getElem? (i := 554) (by decide +kernel)) rfl
theorem tb_555 : Cond.methodLink RX3 28 yX4_forget ∈ gw_tbl := mg (List.mem_of_getElem? (i := 555) (by decide +kernel)) rfl
theorem tb_556 : Cond.methodLink RX3 33 yX3_advance ∈ gw_tbl := mg (List.mem_of_getElem? (i := 556) (by decide +kernel)) rfl
theorem tb_558 : Cond.instanceMethod yX3_advance ∈ gw_tbl := mg (List.mem_of_getElem? (i := 558) (by decide +kernel)) rfl
theorem tb_559 : Cond.code yX3_advance cX3_advance 2 none ∈ gw_tbl := mg (List.mem_of_getElem? (i := 559) (by decide +kernel)) rfl
theorem tb_560 : Cond.methodLink RX3 39 yX8_length ∈ gw_tbl := mg (List.mem_of_getElem? (i := 560) (by decide +kernel)) rfl
theorem tb_561 : Cond.methodLink RX3 146 yX8_at ∈ gw_tbl := mg (List.mem_of_getElem? (i := 561) (by decide +kernel)) rfl
theorem tb_562 : Cond.instanceMethod yX8_at ∈ gw_tbl := mg (List.mem_of_getElem? (i := 562) (by decide +kernel)) rfl
theorem tb_563 : Cond.selects RX8 yX8_at yX8_at ∈ gw_tbl := mg (List.mem_of_getElem? (i := 563) (by decide +kernel)) rfl
theorem tb_564 : Cond.code yX8_at cX8_at 2 (some .int) ∈ gw_tbl := mg (List.mem_of_getElem? (i := 564) (by decide +kernel)) rfl
theorem tb_565 : Cond.methodLink RX3 154 yX3_isBlank ∈ gw_tbl := mg (List.mem_of_getElem? (i := 565) (by decide +kernel)) rfl
theorem tb_566 : Cond.static yX3_isBlank ∈ gw_tbl := mg (List.mem_of_getElem? (i := 566) (by decide +kernel)) rfl
theorem tb_567 : Cond.code yX3_isBlank cX3_isBlank 1 (some .boolean) ∈ gw_tbl := mg (List.mem_of_getElem? (i := 567) (by decide +kernel)) rfl
theorem tb_568 : Cond.methodLink RX3 158 yX3_isLetter ∈ gw_tbl := mg (List.mem_of_getElem? (i := 568) (by decide +kernel)) rfl
theorem tb_569 : Cond.static yX3_isLetter ∈ gw_tbl := mg (List.mem_of_getElem? (i := 569) (by decide +kernel)) rfl
theorem tb_570 : Cond.code yX3_isLetter cX3_isLetter 1 (some .boolean) ∈ gw_tbl := mg (List.mem_of_getElem? (i := 570) (by decide +kernel)) rfl
theorem tb_571 : Cond.methodLink RX3 161 yX3_isDigit ∈ gw_tbl := mg (List.mem_of_getElem? (i := 571) (by decide +kernel)) rfl
theorem tb_572 : Cond.static yX3_isDigit ∈ gw_tbl := mg (List.mem_of_getElem? (i := 572) (by decide +kernel)) rfl
theorem tb_573 : Cond.code yX3_isDigit cX3_isDigit 1 (some .boolean) ∈ gw_tbl := mg (List.mem_of_getElem? (i := 573) (by decide +kernel)) rfl
theorem tb_574 : Cond.methodLink RX3 45 yX3_readLine ∈ gw_tbl := mg (List.mem_of_getElem? (i := 574) (by decide +kernel)) rfl
theorem tb_576 : Cond.instanceMethod yX3_readLine ∈ gw_tbl := mg (List.mem_of_getElem? (i := 576) (by decide +kernel)) rfl
theorem tb_577 : Cond.code yX3_readLine cX3_readLine 2 none ∈ gw_tbl := mg (List.mem_of_getElem? (i := 577) (by decide +kernel)) rfl
theorem tb_579 : Cond.methodLink RX3 54 yX3_isWord ∈ gw_tbl := mg (List.mem_of_getElem? (i := 579) (by decide +kernel)) rfl
theorem tb_581 : Cond.instanceMethod yX3_isWord ∈ gw_tbl := mg (List.mem_of_getElem? (i := 581) (by decide +kernel)) rfl
theorem tb_582 : Cond.code yX3_isWord cX3_isWord 3 (some .boolean) ∈ gw_tbl := mg (List.mem_of_getElem? (i := 582) (by decide +kernel)) rfl
theorem tb_583 : Cond.methodLink RX3 143 yJ0_length_8abf5 ∈ gw_tbl := mg (List.mem_of_getElem? (i := 583) (by decide +kernel)) rfl
theorem tb_584 : Cond.instanceMethod yJ0_length_8abf5 ∈ gw_tbl := mg (List.mem_of_getElem? (i := 584) (by decide +kernel)) rfl
theorem tb_585 : Cond.selects RJ0 yJ0_length_8abf5 yJ0_length_8abf5 ∈ gw_tbl := mg (List.mem_of_getElem? (i := 585) (by decide +kernel)) rfl
theorem tb_586 : Cond.code yJ0_length_8abf5 cJ0_length_8abf5 1 (some .int) ∈ gw_tbl := mg (List.mem_of_getElem? (i := 586) (by decide +kernel)) rfl
theorem tb_587 : Cond.methodLink RJ0 335 yJ0_coder_7d493 ∈ gw_tbl := mg (List.mem_of_getElem? (i := 587) (by decide +kernel)) rfl
theorem tb_588 : Cond.instanceMethod yJ0_coder_7d493 ∈ gw_tbl := mg (List.mem_of_getElem? (i := 588) (by decide +kernel)) rfl
theorem tb_589 : Cond.selects RJ0 yJ0_coder_7d493 yJ0_coder_7d493 ∈ gw_tbl := mg (List.mem_of_getElem? (i := 589) (by decide +kernel)) rfl
theorem tb_590 : Cond.code yJ0_coder_7d493 cJ0_coder_7d493 1 (some .byte) ∈ gw_tbl := mg (List.mem_of_getElem? (i := 590) (by decide +kernel)) rfl
theorem tb_591 : Cond.fieldLink RJ0 38 "java/lang/String" "COMPACT_STRINGS" "Z" ∈ gw_tbl := mg (List.mem_of_getElem? (i := 591) (by decide +kernel)) rfl
theorem tb_593 : Cond.methodLink RX3 150 yJ0_charAt_5068e ∈ gw_tbl := mg (List.mem_of_getElem? (i := 593) (by decide +kernel)) rfl
theorem tb_594 : Cond.instanceMethod yJ0_charAt_5068e ∈ gw_tbl := mg (List.mem_of_getElem? (i := 594) (by decide +kernel)) rfl
theorem tb_595 : Cond.selects RJ0 yJ0_charAt_5068e yJ0_charAt_5068e ∈ gw_tbl := mg (List.mem_of_getElem? (i := 595) (by decide +kernel)) rfl
theorem tb_596 : Cond.code yJ0_charAt_5068e cJ0_charAt_5068e 2 (some .char) ∈ gw_tbl := mg (List.mem_of_getElem? (i := 596) (by decide +kernel)) rfl
theorem tb_597 : Cond.methodLink RJ0 492 yJ0_isLatin1_aae02 ∈ gw_tbl := mg (List.mem_of_getElem? (i := 597) (by decide +kernel)) rfl
theorem tb_598 : Cond.instanceMethod yJ0_isLatin1_aae02 ∈ gw_tbl := mg (List.mem_of_getElem? (i := 598) (by decide +kernel)) rfl
theorem tb_599 : Cond.selects RJ0 yJ0_isLatin1_aae02 yJ0_isLatin1_aae02 ∈ gw_tbl := mg (List.mem_of_getElem? (i := 599) (by decide +kernel)) rfl
theorem tb_600 : Cond.code yJ0_isLatin1_aae02 cJ0_isLatin1_aae02 1 (some .boolean) ∈ gw_tbl := mg (List.mem_of_getElem? (i := 600) (by decide +kernel)) rfl
theorem tb_601 : Cond.methodLink RJ0 495 yJ1_charAt_3b067 ∈ gw_tbl := mg (List.mem_of_getElem? (i := 601) (by decide +kernel)) rfl
theorem tb_602 : Cond.static yJ1_charAt_3b067 ∈ gw_tbl := mg (List.mem_of_getElem? (i := 602) (by decide +kernel)) rfl
theorem tb_603 : Cond.code yJ1_charAt_3b067 cJ1_charAt_3b067 2 (some .char) ∈ gw_tbl := mg (List.mem_of_getElem? (i := 603) (by decide +kernel)) rfl
theorem tb_604 : Cond.methodLink RJ1 9 yJ0_checkIndex_df160 ∈ gw_tbl := mg (List.mem_of_getElem? (i := 604) (by decide +kernel)) rfl
theorem tb_605 : Cond.static yJ0_checkIndex_df160 ∈ gw_tbl := mg (List.mem_of_getElem? (i := 605) (by decide +kernel)) rfl
theorem tb_606 : Cond.code yJ0_checkIndex_df160 cJ0_checkIndex_df160 2 none ∈ gw_tbl := mg (List.mem_of_getElem? (i := 606) (by decide +kernel)) rfl
theorem tb_607 : Cond.fieldLink RJ0 1053 "jdk/internal/util/Preconditions" "SIOOBE_FORMATTER" "Ljava/util/function/BiFunction;" ∈ gw_tbl := mg (List.mem_of_getElem? (i := 607) (by decide +kernel)) rfl
theorem tb_609 : Cond.methodLink RJ0 1059 yJ3_checkIndex_8e157 ∈ gw_tbl := mg (List.mem_of_getElem? (i := 609) (by decide +kernel)) rfl
theorem tb_610 : Cond.static yJ3_checkIndex_8e157 ∈ gw_tbl := mg (List.mem_of_getElem? (i := 610) (by decide +kernel)) rfl
theorem tb_611 : Cond.code yJ3_checkIndex_8e157 cJ3_checkIndex_8e157 3 (some .int) ∈ gw_tbl := mg (List.mem_of_getElem? (i := 611) (by decide +kernel)) rfl
theorem tb_631 : Cond.methodLink RX3 58 yX3_beginOnly ∈ gw_tbl := mg (List.mem_of_getElem? (i := 631) (by decide +kernel)) rfl
theorem tb_633 : Cond.instanceMethod yX3_beginOnly ∈ gw_tbl := mg (List.mem_of_getElem? (i := 633) (by decide +kernel)) rfl
theorem tb_634 : Cond.code yX3_beginOnly cX3_beginOnly 2 none ∈ gw_tbl := mg (List.mem_of_getElem? (i := 634) (by decide +kernel)) rfl
theorem tb_635 : Cond.methodLink RX3 105 yX3_blame ∈ gw_tbl := mg (List.mem_of_getElem? (i := 635) (by decide +kernel)) rfl
theorem tb_637 : Cond.instanceMethod yX3_blame ∈ gw_tbl := mg (List.mem_of_getElem? (i := 637) (by decide +kernel)) rfl
theorem tb_638 : Cond.code yX3_blame cX3_blame 2 none ∈ gw_tbl := mg (List.mem_of_getElem? (i := 638) (by decide +kernel)) rfl
theorem tb_639 : Cond.methodLink RX3 62 yX3_takeNumber ∈ gw_tbl := mg (List.mem_of_getElem? (i := 639) (by decide +kernel)) rfl
theorem tb_641 : Cond.instanceMethod yX3_takeNumber ∈ gw_tbl := mg (List.mem_of_getElem? (i := 641) (by decide +kernel)) rfl
theorem tb_642 : Cond.code yX3_takeNumber cX3_takeNumber 4 (some .int) ∈ gw_tbl := mg (List.mem_of_getElem? (i := 642) (by decide +kernel)) rfl
theorem tb_643 : Cond.methodLinkNest RX3 136 yX11_isFrom "WardWatch" ∈ lw_tbl := List.mem_of_getElem? (i := 643) (by decide +kernel)
theorem tb_648 : Cond.methodLink RX3 86 yX3_readPower ∈ gw_tbl := mg (List.mem_of_getElem? (i := 648) (by decide +kernel)) rfl
theorem tb_650 : Cond.instanceMethod yX3_readPower ∈ gw_tbl := mg (List.mem_of_getElem? (i := 650) (by decide +kernel)) rfl
theorem tb_651 : Cond.code yX3_readPower cX3_readPower 5 none ∈ gw_tbl := mg (List.mem_of_getElem? (i := 651) (by decide +kernel)) rfl
theorem tb_652 : Cond.methodLink RX3 108 yX4_hasRoomForPower ∈ gw_tbl := mg (List.mem_of_getElem? (i := 652) (by decide +kernel)) rfl
theorem tb_653 : Cond.instanceMethod yX4_hasRoomForPower ∈ gw_tbl := mg (List.mem_of_getElem? (i := 653) (by decide +kernel)) rfl
theorem tb_654 : Cond.selects RX4 yX4_hasRoomForPower yX4_hasRoomForPower ∈ gw_tbl := mg (List.mem_of_getElem? (i := 654) (by decide +kernel)) rfl
theorem tb_655 : Cond.code yX4_hasRoomForPower cX4_hasRoomForPower 1 (some .boolean) ∈ gw_tbl := mg (List.mem_of_getElem? (i := 655) (by decide +kernel)) rfl
theorem tb_656 : Cond.methodLink RX3 111 yX3_takePower ∈ gw_tbl := mg (List.mem_of_getElem? (i := 656) (by decide +kernel)) rfl
theorem tb_658 : Cond.instanceMethod yX3_takePower ∈ gw_tbl := mg (List.mem_of_getElem? (i := 658) (by decide +kernel)) rfl
theorem tb_659 : Cond.code yX3_takePower cX3_takePower 2 (some .int) ∈ gw_tbl := mg (List.mem_of_getElem? (i := 659) (by decide +kernel)) rfl
theorem tb_664 : Cond.methodLink RX3 116 yX3_takeWord ∈ gw_tbl := mg (List.mem_of_getElem? (i := 664) (by decide +kernel)) rfl
theorem tb_666 : Cond.instanceMethod yX3_takeWord ∈ gw_tbl := mg (List.mem_of_getElem? (i := 666) (by decide +kernel)) rfl
theorem tb_667 : Cond.code yX3_takeWord cX3_takeWord 2 none ∈ gw_tbl := mg (List.mem_of_getElem? (i := 667) (by decide +kernel)) rfl
theorem tb_669 : Cond.methodLink RX3 93 yX3_takeCry ∈ gw_tbl := mg (List.mem_of_getElem? (i := 669) (by decide +kernel)) rfl
theorem tb_671 : Cond.instanceMethod yX3_takeCry ∈ gw_tbl := mg (List.mem_of_getElem? (i := 671) (by decide +kernel)) rfl
theorem tb_672 : Cond.code yX3_takeCry cX3_takeCry 1 (some .boolean) ∈ gw_tbl := mg (List.mem_of_getElem? (i := 672) (by decide +kernel)) rfl
theorem tb_674 : Cond.methodLink RX3 122 yX4_addPower ∈ gw_tbl := mg (List.mem_of_getElem? (i := 674) (by decide +kernel)) rfl
theorem tb_675 : Cond.instanceMethod yX4_addPower ∈ gw_tbl := mg (List.mem_of_getElem? (i := 675) (by decide +kernel)) rfl
theorem tb_676 : Cond.selects RX4 yX4_addPower yX4_addPower ∈ gw_tbl := mg (List.mem_of_getElem? (i := 676) (by decide +kernel)) rfl
theorem tb_677 : Cond.code yX4_addPower cX4_addPower 5 none ∈ gw_tbl := mg (List.mem_of_getElem? (i := 677) (by decide +kernel)) rfl
theorem tb_678 : Cond.methodLink RX4 57 yX4_hasRoomForPower ∈ gw_tbl := mg (List.mem_of_getElem? (i := 678) (by decide +kernel)) rfl
theorem tb_681 : Cond.methodLink RX3 49 yX3_takeSemicolon ∈ gw_tbl := mg (List.mem_of_getElem? (i := 681) (by decide +kernel)) rfl
theorem tb_683 : Cond.instanceMethod yX3_takeSemicolon ∈ gw_tbl := mg (List.mem_of_getElem? (i := 683) (by decide +kernel)) rfl
theorem tb_684 : Cond.code yX3_takeSemicolon cX3_takeSemicolon 1 none ∈ gw_tbl := mg (List.mem_of_getElem? (i := 684) (by decide +kernel)) rfl
theorem tb_685 : Cond.methodLink RX11 130 yX11_enactDraft ∈ gw_tbl := mg (List.mem_of_getElem? (i := 685) (by decide +kernel)) rfl
theorem tb_687 : Cond.instanceMethod yX11_enactDraft ∈ gw_tbl := mg (List.mem_of_getElem? (i := 687) (by decide +kernel)) rfl
theorem tb_688 : Cond.code yX11_enactDraft cX11_enactDraft 3 none ∈ gw_tbl := mg (List.mem_of_getElem? (i := 688) (by decide +kernel)) rfl
theorem tb_693 : Cond.methodLink RX11 137 yX3_faultKind ∈ gw_tbl := mg (List.mem_of_getElem? (i := 693) (by decide +kernel)) rfl
theorem tb_694 : Cond.instanceMethod yX3_faultKind ∈ gw_tbl := mg (List.mem_of_getElem? (i := 694) (by decide +kernel)) rfl
theorem tb_695 : Cond.selects RX3 yX3_faultKind yX3_faultKind ∈ gw_tbl := mg (List.mem_of_getElem? (i := 695) (by decide +kernel)) rfl
theorem tb_696 : Cond.code yX3_faultKind cX3_faultKind 1 (some .int) ∈ gw_tbl := mg (List.mem_of_getElem? (i := 696) (by decide +kernel)) rfl
theorem tb_697 : Cond.methodLink RX11 140 yX3_faultPlace ∈ gw_tbl := mg (List.mem_of_getElem? (i := 697) (by decide +kernel)) rfl
theorem tb_698 : Cond.instanceMethod yX3_faultPlace ∈ gw_tbl := mg (List.mem_of_getElem? (i := 698) (by decide +kernel)) rfl
theorem tb_699 : Cond.selects RX3 yX3_faultPlace yX3_faultPlace ∈ gw_tbl := mg (List.mem_of_getElem? (i := 699) (by decide +kernel)) rfl
theorem tb_700 : Cond.code yX3_faultPlace cX3_faultPlace 1 (some .int) ∈ gw_tbl := mg (List.mem_of_getElem? (i := 700) (by decide +kernel)) rfl
theorem tb_705 : Cond.methodLink RX11 143 yX4_tell ∈ gw_tbl := mg (List.mem_of_getElem? (i := 705) (by decide +kernel)) rfl
theorem tb_706 : Cond.instanceMethod yX4_tell ∈ gw_tbl := mg (List.mem_of_getElem? (i := 706) (by decide +kernel)) rfl
theorem tb_707 : Cond.selects RX4 yX4_tell yX4_tell ∈ gw_tbl := mg (List.mem_of_getElem? (i := 707) (by decide +kernel)) rfl
theorem tb_708 : Cond.code yX4_tell cX4_tell 2 (some .int) ∈ gw_tbl := mg (List.mem_of_getElem? (i := 708) (by decide +kernel)) rfl
theorem tb_713 : Cond.methodLink RX11 144 yX11_isTaking ∈ gw_tbl := mg (List.mem_of_getElem? (i := 713) (by decide +kernel)) rfl
theorem tb_714 : Cond.static yX11_isTaking ∈ gw_tbl := mg (List.mem_of_getElem? (i := 714) (by decide +kernel)) rfl
theorem tb_715 : Cond.code yX11_isTaking cX11_isTaking 3 (some .boolean) ∈ gw_tbl := mg (List.mem_of_getElem? (i := 715) (by decide +kernel)) rfl
theorem tb_716 : Cond.methodLink RX11 147 yX4_gives ∈ gw_tbl := mg (List.mem_of_getElem? (i := 716) (by decide +kernel)) rfl
theorem tb_717 : Cond.instanceMethod yX4_gives ∈ gw_tbl := mg (List.mem_of_getElem? (i := 717) (by decide +kernel)) rfl
theorem tb_718 : Cond.selects RX4 yX4_gives yX4_gives ∈ gw_tbl := mg (List.mem_of_getElem? (i := 718) (by decide +kernel)) rfl
theorem tb_719 : Cond.code yX4_gives cX4_gives 5 (some .boolean) ∈ gw_tbl := mg (List.mem_of_getElem? (i := 719) (by decide +kernel)) rfl
theorem tb_720 : Cond.methodLink RX4 61 yX4_hasHour ∈ gw_tbl := mg (List.mem_of_getElem? (i := 720) (by decide +kernel)) rfl
theorem tb_722 : Cond.instanceMethod yX4_hasHour ∈ gw_tbl := mg (List.mem_of_getElem? (i := 722) (by decide +kernel)) rfl
theorem tb_723 : Cond.code yX4_hasHour cX4_hasHour 3 (some .boolean) ∈ gw_tbl := mg (List.mem_of_getElem? (i := 723) (by decide +kernel)) rfl
theorem tb_737 : Cond.fieldLink RX2 18 "WardWatch$House" "ward" "I" ∈ gw_tbl := mg (List.mem_of_getElem? (i := 737) (by decide +kernel)) rfl
theorem tb_738 : Cond.fieldLinkNest RX7 33 "WardWatch$House" "ward" "I" "WardWatch" ∈ lw_tbl := List.mem_of_getElem? (i := 738) (by decide +kernel)
theorem tb_739 : Cond.fieldLink RX2 21 "WardWatch$House" "born" "I" ∈ gw_tbl := mg (List.mem_of_getElem? (i := 739) (by decide +kernel)) rfl
theorem tb_740 : Cond.fieldLink RX2 42 "WardWatch$House" "purse" "I" ∈ gw_tbl := mg (List.mem_of_getElem? (i := 740) (by decide +kernel)) rfl
theorem tb_741 : Cond.fieldLinkNest RX7 55 "WardWatch$House" "purse" "I" "WardWatch" ∈ lw_tbl := List.mem_of_getElem? (i := 741) (by decide +kernel)
theorem tb_742 : Cond.fieldLinkNest RX11 159 "WardWatch$House" "purse" "I" "WardWatch" ∈ lw_tbl := List.mem_of_getElem? (i := 742) (by decide +kernel)
theorem tb_743 : Cond.fieldLink RX2 9 "WardWatch$House" "would" "I" ∈ gw_tbl := mg (List.mem_of_getElem? (i := 743) (by decide +kernel)) rfl
theorem tb_744 : Cond.fieldLinkNest RX11 166 "WardWatch$House" "would" "I" "WardWatch" ∈ lw_tbl := List.mem_of_getElem? (i := 744) (by decide +kernel)
theorem tb_745 : Cond.fieldLink RX2 15 "WardWatch$House" "lastYear" "I" ∈ gw_tbl := mg (List.mem_of_getElem? (i := 745) (by decide +kernel)) rfl
theorem tb_746 : Cond.fieldLink RX2 48 "WardWatch$House" "times" "I" ∈ gw_tbl := mg (List.mem_of_getElem? (i := 746) (by decide +kernel)) rfl
theorem tb_764 : Cond.methodLink RX11 154 yX7_find ∈ gw_tbl := mg (List.mem_of_getElem? (i := 764) (by decide +kernel)) rfl
theorem tb_765 : Cond.instanceMethod yX7_find ∈ gw_tbl := mg (List.mem_of_getElem? (i := 765) (by decide +kernel)) rfl
theorem tb_766 : Cond.selects RX7 yX7_find yX7_find ∈ gw_tbl := mg (List.mem_of_getElem? (i := 766) (by decide +kernel)) rfl
theorem tb_767 : Cond.code yX7_find cX7_find 2 (some (.object "WardWatch$House")) ∈ gw_tbl := mg (List.mem_of_getElem? (i := 767) (by decide +kernel)) rfl
theorem tb_768 : Cond.constant RX11 158 (100000) ∈ gw_tbl := mg (List.mem_of_getElem? (i := 768) (by decide +kernel)) rfl
theorem tb_769 : Cond.constant RX11 165 (1000000) ∈ gw_tbl := mg (List.mem_of_getElem? (i := 769) (by decide +kernel)) rfl
theorem tb_778 : Cond.methodLink RX11 169 yX10_nextYear ∈ gw_tbl := mg (List.mem_of_getElem? (i := 778) (by decide +kernel)) rfl
theorem tb_779 : Cond.instanceMethod yX10_nextYear ∈ gw_tbl := mg (List.mem_of_getElem? (i := 779) (by decide +kernel)) rfl
theorem tb_780 : Cond.selects RX10 yX10_nextYear yX10_nextYear ∈ gw_tbl := mg (List.mem_of_getElem? (i := 780) (by decide +kernel)) rfl
theorem tb_781 : Cond.code yX10_nextYear cX10_nextYear 3 (some .int) ∈ gw_tbl := mg (List.mem_of_getElem? (i := 781) (by decide +kernel)) rfl
theorem tb_782 : Cond.methodLinkNest RX10 45 yX11_isFrom "WardWatch" ∈ lw_tbl := List.mem_of_getElem? (i := 782) (by decide +kernel)
theorem tb_783 : Cond.methodLink RX11 172 yX7_fillYear ∈ gw_tbl := mg (List.mem_of_getElem? (i := 783) (by decide +kernel)) rfl
theorem tb_784 : Cond.instanceMethod yX7_fillYear ∈ gw_tbl := mg (List.mem_of_getElem? (i := 784) (by decide +kernel)) rfl
theorem tb_785 : Cond.selects RX7 yX7_fillYear yX7_fillYear ∈ gw_tbl := mg (List.mem_of_getElem? (i := 785) (by decide +kernel)) rfl
theorem tb_786 : Cond.code yX7_fillYear cX7_fillYear 8 (some .int) ∈ gw_tbl := mg (List.mem_of_getElem? (i := 786) (by decide +kernel)) rfl
theorem tb_787 : Cond.methodLink RX7 24 yX10_openYear ∈ gw_tbl := mg (List.mem_of_getElem? (i := 787) (by decide +kernel)) rfl
theorem tb_788 : Cond.instanceMethod yX10_openYear ∈ gw_tbl := mg (List.mem_of_getElem? (i := 788) (by decide +kernel)) rfl
theorem tb_789 : Cond.selects RX10 yX10_openYear yX10_openYear ∈ gw_tbl := mg (List.mem_of_getElem? (i := 789) (by decide +kernel)) rfl
theorem tb_790 : Cond.code yX10_openYear cX10_openYear 2 none ∈ gw_tbl := mg (List.mem_of_getElem? (i := 790) (by decide +kernel)) rfl
theorem tb_791 : Cond.methodLink RX7 40 yX2_isDue ∈ gw_tbl := mg (List.mem_of_getElem? (i := 791) (by decide +kernel)) rfl
theorem tb_792 : Cond.instanceMethod yX2_isDue ∈ gw_tbl := mg (List.mem_of_getElem? (i := 792) (by decide +kernel)) rfl
theorem tb_793 : Cond.selects RX2 yX2_isDue yX2_isDue ∈ gw_tbl := mg (List.mem_of_getElem? (i := 793) (by decide +kernel)) rfl
theorem tb_794 : Cond.code yX2_isDue cX2_isDue 4 (some .boolean) ∈ gw_tbl := mg (List.mem_of_getElem? (i := 794) (by decide +kernel)) rfl
theorem tb_795 : Cond.methodLinkNest RX2 35 yX11_isFrom "WardWatch" ∈ lw_tbl := List.mem_of_getElem? (i := 795) (by decide +kernel)
theorem tb_796 : Cond.methodLink RX7 44 yX2_noteYear ∈ gw_tbl := mg (List.mem_of_getElem? (i := 796) (by decide +kernel)) rfl
theorem tb_797 : Cond.instanceMethod yX2_noteYear ∈ gw_tbl := mg (List.mem_of_getElem? (i := 797) (by decide +kernel)) rfl
theorem tb_798 : Cond.selects RX2 yX2_noteYear yX2_noteYear ∈ gw_tbl := mg (List.mem_of_getElem? (i := 798) (by decide +kernel)) rfl
theorem tb_799 : Cond.code yX2_noteYear cX2_noteYear 2 none ∈ gw_tbl := mg (List.mem_of_getElem? (i := 799) (by decide +kernel)) rfl
theorem tb_800 : Cond.methodLink RX7 47 yX2_canPay ∈ gw_tbl := mg (List.mem_of_getElem? (i := 800) (by decide +kernel)) rfl
theorem tb_801 : Cond.instanceMethod yX2_canPay ∈ gw_tbl := mg (List.mem_of_getElem? (i := 801) (by decide +kernel)) rfl
theorem tb_802 : Cond.selects RX2 yX2_canPay yX2_canPay ∈ gw_tbl := mg (List.mem_of_getElem? (i := 802) (by decide +kernel)) rfl
theorem tb_803 : Cond.code yX2_canPay cX2_canPay 2 (some .boolean) ∈ gw_tbl := mg (List.mem_of_getElem? (i := 803) (by decide +kernel)) rfl
theorem tb_804 : Cond.methodLink RX7 51 yX7_appoint ∈ gw_tbl := mg (List.mem_of_getElem? (i := 804) (by decide +kernel)) rfl
theorem tb_806 : Cond.instanceMethod yX7_appoint ∈ gw_tbl := mg (List.mem_of_getElem? (i := 806) (by decide +kernel)) rfl
theorem tb_807 : Cond.code yX7_appoint cX7_appoint 5 none ∈ gw_tbl := mg (List.mem_of_getElem? (i := 807) (by decide +kernel)) rfl
theorem tb_808 : Cond.methodLink RX7 66 yX2_canHire ∈ gw_tbl := mg (List.mem_of_getElem? (i := 808) (by decide +kernel)) rfl
theorem tb_809 : Cond.instanceMethod yX2_canHire ∈ gw_tbl := mg (List.mem_of_getElem? (i := 809) (by decide +kernel)) rfl
theorem tb_810 : Cond.selects RX2 yX2_canHire yX2_canHire ∈ gw_tbl := mg (List.mem_of_getElem? (i := 810) (by decide +kernel)) rfl
theorem tb_811 : Cond.code yX2_canHire cX2_canHire 2 (some .boolean) ∈ gw_tbl := mg (List.mem_of_getElem? (i := 811) (by decide +kernel)) rfl
theorem tb_812 : Cond.methodLink RX7 72 yX10_appoint ∈ gw_tbl := mg (List.mem_of_getElem? (i := 812) (by decide +kernel)) rfl
theorem tb_813 : Cond.instanceMethod yX10_appoint ∈ gw_tbl := mg (List.mem_of_getElem? (i := 813) (by decide +kernel)) rfl
theorem tb_814 : Cond.selects RX10 yX10_appoint yX10_appoint ∈ gw_tbl := mg (List.mem_of_getElem? (i := 814) (by decide +kernel)) rfl
theorem tb_815 : Cond.code yX10_appoint cX10_appoint 4 none ∈ gw_tbl := mg (List.mem_of_getElem? (i := 815) (by decide +kernel)) rfl
theorem tb_816 : Cond.methodLink RX7 63 yX10_takeFine ∈ gw_tbl := mg (List.mem_of_getElem? (i := 816) (by decide +kernel)) rfl
theorem tb_817 : Cond.instanceMethod yX10_takeFine ∈ gw_tbl := mg (List.mem_of_getElem? (i := 817) (by decide +kernel)) rfl
theorem tb_818 : Cond.selects RX10 yX10_takeFine yX10_takeFine ∈ gw_tbl := mg (List.mem_of_getElem? (i := 818) (by decide +kernel)) rfl
theorem tb_819 : Cond.code yX10_takeFine cX10_takeFine 2 none ∈ gw_tbl := mg (List.mem_of_getElem? (i := 819) (by decide +kernel)) rfl
theorem tb_824 : Cond.methodLink RX11 176 yX10_tellYear ∈ gw_tbl := mg (List.mem_of_getElem? (i := 824) (by decide +kernel)) rfl
theorem tb_825 : Cond.instanceMethod yX10_tellYear ∈ gw_tbl := mg (List.mem_of_getElem? (i := 825) (by decide +kernel)) rfl
theorem tb_826 : Cond.selects RX10 yX10_tellYear yX10_tellYear ∈ gw_tbl := mg (List.mem_of_getElem? (i := 826) (by decide +kernel)) rfl
theorem tb_827 : Cond.code yX10_tellYear cX10_tellYear 3 (some .int) ∈ gw_tbl := mg (List.mem_of_getElem? (i := 827) (by decide +kernel)) rfl
theorem tb_832 : Cond.methodLink RX11 179 yX2_tell ∈ gw_tbl := mg (List.mem_of_getElem? (i := 832) (by decide +kernel)) rfl
theorem tb_833 : Cond.instanceMethod yX2_tell ∈ gw_tbl := mg (List.mem_of_getElem? (i := 833) (by decide +kernel)) rfl
theorem tb_834 : Cond.selects RX2 yX2_tell yX2_tell ∈ gw_tbl := mg (List.mem_of_getElem? (i := 834) (by decide +kernel)) rfl
theorem tb_835 : Cond.code yX2_tell cX2_tell 2 (some .int) ∈ gw_tbl := mg (List.mem_of_getElem? (i := 835) (by decide +kernel)) rfl
theorem tb_850 : Cond.fieldLink RX0 18 "WardWatch$Charge" "ward" "I" ∈ gw_tbl := mg (List.mem_of_getElem? (i := 850) (by decide +kernel)) rfl
theorem tb_851 : Cond.fieldLinkNest RX5 21 "WardWatch$Charge" "ward" "I" "WardWatch" ∈ lw_tbl := List.mem_of_getElem? (i := 851) (by decide +kernel)
theorem tb_852 : Cond.fieldLink RX0 21 "WardWatch$Charge" "power" "I" ∈ gw_tbl := mg (List.mem_of_getElem? (i := 852) (by decide +kernel)) rfl
theorem tb_853 : Cond.fieldLinkNest RX5 30 "WardWatch$Charge" "power" "I" "WardWatch" ∈ lw_tbl := List.mem_of_getElem? (i := 853) (by decide +kernel)
theorem tb_854 : Cond.fieldLink RX0 24 "WardWatch$Charge" "hour" "I" ∈ gw_tbl := mg (List.mem_of_getElem? (i := 854) (by decide +kernel)) rfl
theorem tb_855 : Cond.fieldLinkNest RX5 33 "WardWatch$Charge" "hour" "I" "WardWatch" ∈ lw_tbl := List.mem_of_getElem? (i := 855) (by decide +kernel)
theorem tb_856 : Cond.fieldLink RX0 11 "WardWatch$Charge" "state" "I" ∈ gw_tbl := mg (List.mem_of_getElem? (i := 856) (by decide +kernel)) rfl
theorem tb_857 : Cond.fieldLinkNest RX5 46 "WardWatch$Charge" "state" "I" "WardWatch" ∈ lw_tbl := List.mem_of_getElem? (i := 857) (by decide +kernel)
theorem tb_858 : Cond.fieldLink RX0 15 "WardWatch$Charge" "lockup" "I" ∈ gw_tbl := mg (List.mem_of_getElem? (i := 858) (by decide +kernel)) rfl
theorem tb_859 : Cond.fieldLinkNest RX5 60 "WardWatch$Charge" "lockup" "I" "WardWatch" ∈ lw_tbl := List.mem_of_getElem? (i := 859) (by decide +kernel)
theorem tb_875 : Cond.methodLink RX5 36 yX4_gives ∈ gw_tbl := mg (List.mem_of_getElem? (i := 875) (by decide +kernel)) rfl
theorem tb_876 : Cond.methodLink RX5 42 yX5_lockUp ∈ gw_tbl := mg (List.mem_of_getElem? (i := 876) (by decide +kernel)) rfl
theorem tb_878 : Cond.instanceMethod yX5_lockUp ∈ gw_tbl := mg (List.mem_of_getElem? (i := 878) (by decide +kernel)) rfl
theorem tb_879 : Cond.code yX5_lockUp cX5_lockUp 5 none ∈ gw_tbl := mg (List.mem_of_getElem? (i := 879) (by decide +kernel)) rfl
theorem tb_880 : Cond.methodLink RX5 52 yX5_firstWithPlace ∈ gw_tbl := mg (List.mem_of_getElem? (i := 880) (by decide +kernel)) rfl
theorem tb_881 : Cond.static yX5_firstWithPlace ∈ gw_tbl := mg (List.mem_of_getElem? (i := 881) (by decide +kernel)) rfl
theorem tb_882 : Cond.code yX5_firstWithPlace cX5_firstWithPlace 4 (some .int) ∈ gw_tbl := mg (List.mem_of_getElem? (i := 882) (by decide +kernel)) rfl
theorem tb_883 : Cond.methodLink RX5 66 yX10_hasPlace ∈ gw_tbl := mg (List.mem_of_getElem? (i := 883) (by decide +kernel)) rfl
theorem tb_884 : Cond.instanceMethod yX10_hasPlace ∈ gw_tbl := mg (List.mem_of_getElem? (i := 884) (by decide +kernel)) rfl
theorem tb_885 : Cond.selects RX10 yX10_hasPlace yX10_hasPlace ∈ gw_tbl := mg (List.mem_of_getElem? (i := 885) (by decide +kernel)) rfl
theorem tb_886 : Cond.code yX10_hasPlace cX10_hasPlace 1 (some .boolean) ∈ gw_tbl := mg (List.mem_of_getElem? (i := 886) (by decide +kernel)) rfl
theorem tb_887 : Cond.methodLink RX5 56 yX4_letFollow ∈ gw_tbl := mg (List.mem_of_getElem? (i := 887) (by decide +kernel)) rfl
theorem tb_888 : Cond.instanceMethod yX4_letFollow ∈ gw_tbl := mg (List.mem_of_getElem? (i := 888) (by decide +kernel)) rfl
theorem tb_889 : Cond.selects RX4 yX4_letFollow yX4_letFollow ∈ gw_tbl := mg (List.mem_of_getElem? (i := 889) (by decide +kernel)) rfl
theorem tb_890 : Cond.code yX4_letFollow cX4_letFollow 2 (some .boolean) ∈ gw_tbl := mg (List.mem_of_getElem? (i := 890) (by decide +kernel)) rfl
theorem tb_895 : Cond.methodLink RX11 192 yX5_find ∈ gw_tbl := mg (List.mem_of_getElem? (i := 895) (by decide +kernel)) rfl
theorem tb_896 : Cond.instanceMethod yX5_find ∈ gw_tbl := mg (List.mem_of_getElem? (i := 896) (by decide +kernel)) rfl
theorem tb_897 : Cond.selects RX5 yX5_find yX5_find ∈ gw_tbl := mg (List.mem_of_getElem? (i := 897) (by decide +kernel)) rfl
theorem tb_898 : Cond.code yX5_find cX5_find 2 (some (.object "WardWatch$Charge")) ∈ gw_tbl := mg (List.mem_of_getElem? (i := 898) (by decide +kernel)) rfl
theorem tb_899 : Cond.methodLink RX11 195 yX0_tell ∈ gw_tbl := mg (List.mem_of_getElem? (i := 899) (by decide +kernel)) rfl
theorem tb_900 : Cond.instanceMethod yX0_tell ∈ gw_tbl := mg (List.mem_of_getElem? (i := 900) (by decide +kernel)) rfl
theorem tb_901 : Cond.selects RX0 yX0_tell yX0_tell ∈ gw_tbl := mg (List.mem_of_getElem? (i := 901) (by decide +kernel)) rfl
theorem tb_902 : Cond.code yX0_tell cX0_tell 2 (some .int) ∈ gw_tbl := mg (List.mem_of_getElem? (i := 902) (by decide +kernel)) rfl
theorem tb_907 : Cond.methodLink RX11 199 yX5_bringAll ∈ gw_tbl := mg (List.mem_of_getElem? (i := 907) (by decide +kernel)) rfl
theorem tb_908 : Cond.instanceMethod yX5_bringAll ∈ gw_tbl := mg (List.mem_of_getElem? (i := 908) (by decide +kernel)) rfl
theorem tb_909 : Cond.selects RX5 yX5_bringAll yX5_bringAll ∈ gw_tbl := mg (List.mem_of_getElem? (i := 909) (by decide +kernel)) rfl
theorem tb_910 : Cond.code yX5_bringAll cX5_bringAll 3 (some .int) ∈ gw_tbl := mg (List.mem_of_getElem? (i := 910) (by decide +kernel)) rfl
theorem tb_915 : Cond.methodLink RX11 202 yX1_read ∈ gw_tbl := mg (List.mem_of_getElem? (i := 915) (by decide +kernel)) rfl
theorem tb_916 : Cond.instanceMethod yX1_read ∈ gw_tbl := mg (List.mem_of_getElem? (i := 916) (by decide +kernel)) rfl
theorem tb_917 : Cond.selects RX1 yX1_read yX1_read ∈ gw_tbl := mg (List.mem_of_getElem? (i := 917) (by decide +kernel)) rfl
theorem tb_918 : Cond.code yX1_read cX1_read 4 (some .boolean) ∈ gw_tbl := mg (List.mem_of_getElem? (i := 918) (by decide +kernel)) rfl
theorem tb_919 : Cond.methodLink RX1 19 yX8_length ∈ gw_tbl := mg (List.mem_of_getElem? (i := 919) (by decide +kernel)) rfl
theorem tb_920 : Cond.methodLinkNest RX1 28 yX11_isFrom "WardWatch" ∈ lw_tbl := List.mem_of_getElem? (i := 920) (by decide +kernel)
theorem tb_921 : Cond.methodLink RX1 32 yX8_at ∈ gw_tbl := mg (List.mem_of_getElem? (i := 921) (by decide +kernel)) rfl
theorem tb_922 : Cond.methodLinkNest RX1 36 yX11_isCourt "WardWatch" ∈ lw_tbl := List.mem_of_getElem? (i := 922) (by decide +kernel)
theorem tb_923 : Cond.methodLink RX1 40 yX9_minutesOfWay ∈ gw_tbl := mg (List.mem_of_getElem? (i := 923) (by decide +kernel)) rfl
theorem tb_924 : Cond.methodLink RX11 205 yX1_run ∈ gw_tbl := mg (List.mem_of_getElem? (i := 924) (by decide +kernel)) rfl
theorem tb_925 : Cond.instanceMethod yX1_run ∈ gw_tbl := mg (List.mem_of_getElem? (i := 925) (by decide +kernel)) rfl
theorem tb_926 : Cond.selects RX1 yX1_run yX1_run ∈ gw_tbl := mg (List.mem_of_getElem? (i := 926) (by decide +kernel)) rfl
theorem tb_927 : Cond.code yX1_run cX1_run 10 (some .int) ∈ gw_tbl := mg (List.mem_of_getElem? (i := 927) (by decide +kernel)) rfl
theorem tb_928 : Cond.methodLink RX1 46 yX9_wardAt ∈ gw_tbl := mg (List.mem_of_getElem? (i := 928) (by decide +kernel)) rfl
theorem tb_929 : Cond.instanceMethod yX9_wardAt ∈ gw_tbl := mg (List.mem_of_getElem? (i := 929) (by decide +kernel)) rfl
theorem tb_930 : Cond.selects RX9 yX9_wardAt yX9_wardAt ∈ gw_tbl := mg (List.mem_of_getElem? (i := 930) (by decide +kernel)) rfl
theorem tb_931 : Cond.code yX9_wardAt cX9_wardAt 2 (some .int) ∈ gw_tbl := mg (List.mem_of_getElem? (i := 931) (by decide +kernel)) rfl
theorem tb_932 : Cond.methodLink RX1 58 yX4_letFollow ∈ gw_tbl := mg (List.mem_of_getElem? (i := 932) (by decide +kernel)) rfl
theorem tb_937 : Cond.methodLink RX11 209 yX1_tell ∈ gw_tbl := mg (List.mem_of_getElem? (i := 937) (by decide +kernel)) rfl
theorem tb_938 : Cond.instanceMethod yX1_tell ∈ gw_tbl := mg (List.mem_of_getElem? (i := 938) (by decide +kernel)) rfl
theorem tb_939 : Cond.selects RX1 yX1_tell yX1_tell ∈ gw_tbl := mg (List.mem_of_getElem? (i := 939) (by decide +kernel)) rfl
theorem tb_940 : Cond.code yX1_tell cX1_tell 2 (some .int) ∈ gw_tbl := mg (List.mem_of_getElem? (i := 940) (by decide +kernel)) rfl
theorem tb_945 : Cond.methodLink RX11 210 yX11_isInTable ∈ gw_tbl := mg (List.mem_of_getElem? (i := 945) (by decide +kernel)) rfl
theorem tb_946 : Cond.static yX11_isInTable ∈ gw_tbl := mg (List.mem_of_getElem? (i := 946) (by decide +kernel)) rfl
theorem tb_947 : Cond.code yX11_isInTable cX11_isInTable 1 (some .boolean) ∈ gw_tbl := mg (List.mem_of_getElem? (i := 947) (by decide +kernel)) rfl
theorem tb_948 : Cond.constantLong RX11 213 (-2) ∈ gw_tbl := mg (List.mem_of_getElem? (i := 948) (by decide +kernel)) rfl
theorem tb_949 : Cond.methodLink RX11 215 yX11_waysToChoose ∈ gw_tbl := mg (List.mem_of_getElem? (i := 949) (by decide +kernel)) rfl
theorem tb_950 : Cond.static yX11_waysToChoose ∈ gw_tbl := mg (List.mem_of_getElem? (i := 950) (by decide +kernel)) rfl
theorem tb_951 : Cond.code yX11_waysToChoose cX11_waysToChoose 6 (some .long) ∈ gw_tbl := mg (List.mem_of_getElem? (i := 951) (by decide +kernel)) rfl
theorem tb_952 : Cond.methodLink RX11 235 Lib.Math.min.name ∈ gw_tbl := mg (List.mem_of_getElem? (i := 952) (by decide +kernel)) rfl
theorem tb_953 : Cond.constantLong RX11 219 (20) ∈ gw_tbl := mg (List.mem_of_getElem? (i := 953) (by decide +kernel)) rfl
theorem tb_954 : Cond.methodLink RX11 221 yX11_greatestCommonPart ∈ gw_tbl := mg (List.mem_of_getElem? (i := 954) (by decide +kernel)) rfl
theorem tb_955 : Cond.static yX11_greatestCommonPart ∈ gw_tbl := mg (List.mem_of_getElem? (i := 955) (by decide +kernel)) rfl
theorem tb_956 : Cond.code yX11_greatestCommonPart cX11_greatestCommonPart 11 (some .long) ∈ gw_tbl := mg (List.mem_of_getElem? (i := 956) (by decide +kernel)) rfl
theorem tb_957 : Cond.methodLink RX11 240 Lib.MathLoose.max_long.x ∈ gw_tbl := mg (List.mem_of_getElem? (i := 957) (by decide +kernel)) rfl
theorem tb_958 : Cond.static Lib.MathLoose.max_long.x ∈ gw_tbl := mg (List.mem_of_getElem? (i := 958) (by decide +kernel)) rfl
theorem tb_959 : Cond.code Lib.MathLoose.max_long.x Lib.MathLoose.max_long.code 4 (some .long) ∈ gw_tbl := mg (List.mem_of_getElem? (i := 959) (by decide +kernel)) rfl
theorem tb_964 : Cond.methodLink RX11 225 yX7_size ∈ gw_tbl := mg (List.mem_of_getElem? (i := 964) (by decide +kernel)) rfl
theorem tb_965 : Cond.instanceMethod yX7_size ∈ gw_tbl := mg (List.mem_of_getElem? (i := 965) (by decide +kernel)) rfl
theorem tb_966 : Cond.selects RX7 yX7_size yX7_size ∈ gw_tbl := mg (List.mem_of_getElem? (i := 966) (by decide +kernel)) rfl
theorem tb_967 : Cond.code yX7_size cX7_size 1 (some .int) ∈ gw_tbl := mg (List.mem_of_getElem? (i := 967) (by decide +kernel)) rfl
theorem tb_968 : Cond.methodLink RX11 228 yX5_size ∈ gw_tbl := mg (List.mem_of_getElem? (i := 968) (by decide +kernel)) rfl
theorem tb_969 : Cond.instanceMethod yX5_size ∈ gw_tbl := mg (List.mem_of_getElem? (i := 969) (by decide +kernel)) rfl
theorem tb_970 : Cond.selects RX5 yX5_size yX5_size ∈ gw_tbl := mg (List.mem_of_getElem? (i := 970) (by decide +kernel)) rfl
theorem tb_971 : Cond.code yX5_size cX5_size 1 (some .int) ∈ gw_tbl := mg (List.mem_of_getElem? (i := 971) (by decide +kernel)) rfl
theorem tb_978 : Cond.methodLink RX12 131 yX12_plain ∈ gw_tbl := mg (List.mem_of_getElem? (i := 978) (by decide +kernel)) rfl
theorem tb_979 : Cond.static yX12_plain ∈ gw_tbl := mg (List.mem_of_getElem? (i := 979) (by decide +kernel)) rfl
theorem tb_980 : Cond.code yX12_plain cX12_plain 1 (some .int) ∈ gw_tbl := mg (List.mem_of_getElem? (i := 980) (by decide +kernel)) rfl
theorem tb_981 : Cond.methodLink RX12 135 yX12_makeFar ∈ gw_tbl := mg (List.mem_of_getElem? (i := 981) (by decide +kernel)) rfl
theorem tb_983 : Cond.instanceMethod yX12_makeFar ∈ gw_tbl := mg (List.mem_of_getElem? (i := 983) (by decide +kernel)) rfl
theorem tb_984 : Cond.code yX12_makeFar cX12_makeFar 5 none ∈ gw_tbl := mg (List.mem_of_getElem? (i := 984) (by decide +kernel)) rfl
theorem tb_985 : Cond.constant RX12 198 (1000000) ∈ gw_tbl := mg (List.mem_of_getElem? (i := 985) (by decide +kernel)) rfl
theorem tb_986 : Cond.fieldLink RX12 7 "WardWatchModel" "tape" "[B" ∈ gw_tbl := mg (List.mem_of_getElem? (i := 986) (by decide +kernel)) rfl
theorem tb_987 : Cond.fieldLink RX12 138 "WardWatchModel" "taped" "I" ∈ gw_tbl := mg (List.mem_of_getElem? (i := 987) (by decide +kernel)) rfl
theorem tb_988 : Cond.fieldLink RX12 141 "WardWatchModel" "size" "I" ∈ gw_tbl := mg (List.mem_of_getElem? (i := 988) (by decide +kernel)) rfl
theorem tb_989 : Cond.fieldLink RX12 165 "WardWatchModel" "sort" "I" ∈ gw_tbl := mg (List.mem_of_getElem? (i := 989) (by decide +kernel)) rfl
theorem tb_990 : Cond.fieldLink RX12 176 "WardWatchModel" "what" "I" ∈ gw_tbl := mg (List.mem_of_getElem? (i := 990) (by decide +kernel)) rfl
theorem tb_991 : Cond.fieldLink RX12 162 "WardWatchModel" "at" "I" ∈ gw_tbl := mg (List.mem_of_getElem? (i := 991) (by decide +kernel)) rfl
theorem tb_992 : Cond.fieldLink RX12 159 "WardWatchModel" "end" "I" ∈ gw_tbl := mg (List.mem_of_getElem? (i := 992) (by decide +kernel)) rfl
theorem tb_993 : Cond.fieldLink RX12 182 "WardWatchModel" "worth" "I" ∈ gw_tbl := mg (List.mem_of_getElem? (i := 993) (by decide +kernel)) rfl
theorem tb_994 : Cond.fieldLink RX12 185 "WardWatchModel" "faultKind" "I" ∈ gw_tbl := mg (List.mem_of_getElem? (i := 994) (by decide +kernel)) rfl
theorem tb_995 : Cond.fieldLink RX12 13 "WardWatchModel" "faultPlace" "I" ∈ gw_tbl := mg (List.mem_of_getElem? (i := 995) (by decide +kernel)) rfl
theorem tb_996 : Cond.fieldLink RX12 17 "WardWatchModel" "ward" "[I" ∈ gw_tbl := mg (List.mem_of_getElem? (i := 996) (by decide +kernel)) rfl
theorem tb_997 : Cond.fieldLink RX12 21 "WardWatchModel" "within" "[I" ∈ gw_tbl := mg (List.mem_of_getElem? (i := 997) (by decide +kernel)) rfl
theorem tb_998 : Cond.fieldLink RX12 24 "WardWatchModel" "ways" "[I" ∈ gw_tbl := mg (List.mem_of_getElem? (i := 998) (by decide +kernel)) rfl
theorem tb_999 : Cond.fieldLink RX12 27 "WardWatchModel" "fars" "[I" ∈ gw_tbl := mg (List.mem_of_getElem? (i := 999) (by decide +kernel)) rfl
theorem tb_1000 : Cond.fieldLink RX12 30 "WardWatchModel" "of" "[I" ∈ gw_tbl := mg (List.mem_of_getElem? (i := 1000) (by decide +kernel)) rfl
theorem tb_1001 : Cond.fieldLink RX12 199 "WardWatchModel" "many" "I" ∈ gw_tbl := mg (List.mem_of_getElem? (i := 1001) (by decide +kernel)) rfl
theorem tb_1002 : Cond.fieldLink RX12 33 "WardWatchModel" "path" "[I" ∈ gw_tbl := mg (List.mem_of_getElem? (i := 1002) (by decide +kernel)) rfl
theorem tb_1003 : Cond.fieldLink RX12 36 "WardWatchModel" "lengthOf" "[I" ∈ gw_tbl := mg (List.mem_of_getElem? (i := 1003) (by decide +kernel)) rfl
theorem tb_1009 : Cond.fieldLink RX12 227 "WardWatchModel" "hasRounds" "Z" ∈ gw_tbl := mg (List.mem_of_getElem? (i := 1009) (by decide +kernel)) rfl
theorem tb_1010 : Cond.fieldLink RX12 221 "WardWatchModel" "men" "I" ∈ gw_tbl := mg (List.mem_of_getElem? (i := 1010) (by decide +kernel)) rfl
theorem tb_1011 : Cond.fieldLink RX12 224 "WardWatchModel" "lengths" "I" ∈ gw_tbl := mg (List.mem_of_getElem? (i := 1011) (by decide +kernel)) rfl
theorem tb_1012 : Cond.fieldLink RX12 48 "WardWatchModel" "man" "[I" ∈ gw_tbl := mg (List.mem_of_getElem? (i := 1012) (by decide +kernel)) rfl
theorem tb_1013 : Cond.fieldLink RX12 51 "WardWatchModel" "manLength" "[I" ∈ gw_tbl := mg (List.mem_of_getElem? (i := 1013) (by decide +kernel)) rfl
theorem tb_1014 : Cond.fieldLink RX12 54 "WardWatchModel" "manCourts" "[I" ∈ gw_tbl := mg (List.mem_of_getElem? (i := 1014) (by decide +kernel)) rfl
theorem tb_1015 : Cond.fieldLink RX12 57 "WardWatchModel" "laws" "[I" ∈ gw_tbl := mg (List.mem_of_getElem? (i := 1015) (by decide +kernel)) rfl
theorem tb_1016 : Cond.fieldLink RX12 60 "WardWatchModel" "powers" "[I" ∈ gw_tbl := mg (List.mem_of_getElem? (i := 1016) (by decide +kernel)) rfl
theorem tb_1017 : Cond.fieldLink RX12 63 "WardWatchModel" "powerMany" "[I" ∈ gw_tbl := mg (List.mem_of_getElem? (i := 1017) (by decide +kernel)) rfl
theorem tb_1018 : Cond.fieldLink RX12 260 "WardWatchModel" "houses" "I" ∈ gw_tbl := mg (List.mem_of_getElem? (i := 1018) (by decide +kernel)) rfl
theorem tb_1019 : Cond.fieldLink RX12 66 "WardWatchModel" "hWard" "[I" ∈ gw_tbl := mg (List.mem_of_getElem? (i := 1019) (by decide +kernel)) rfl
theorem tb_1020 : Cond.fieldLink RX12 69 "WardWatchModel" "hBorn" "[I" ∈ gw_tbl := mg (List.mem_of_getElem? (i := 1020) (by decide +kernel)) rfl
theorem tb_1021 : Cond.fieldLink RX12 72 "WardWatchModel" "hPurse" "[I" ∈ gw_tbl := mg (List.mem_of_getElem? (i := 1021) (by decide +kernel)) rfl
theorem tb_1022 : Cond.fieldLink RX12 75 "WardWatchModel" "hWould" "[I" ∈ gw_tbl := mg (List.mem_of_getElem? (i := 1022) (by decide +kernel)) rfl
theorem tb_1023 : Cond.fieldLink RX12 78 "WardWatchModel" "hLast" "[I" ∈ gw_tbl := mg (List.mem_of_getElem? (i := 1023) (by decide +kernel)) rfl
theorem tb_1024 : Cond.fieldLink RX12 81 "WardWatchModel" "hOften" "[I" ∈ gw_tbl := mg (List.mem_of_getElem? (i := 1024) (by decide +kernel)) rfl
theorem tb_1025 : Cond.fieldLink RX12 84 "WardWatchModel" "lastYear" "[I" ∈ gw_tbl := mg (List.mem_of_getElem? (i := 1025) (by decide +kernel)) rfl
theorem tb_1026 : Cond.fieldLink RX12 87 "WardWatchModel" "lastTurn" "[I" ∈ gw_tbl := mg (List.mem_of_getElem? (i := 1026) (by decide +kernel)) rfl
theorem tb_1027 : Cond.fieldLink RX12 90 "WardWatchModel" "firstYear" "[I" ∈ gw_tbl := mg (List.mem_of_getElem? (i := 1027) (by decide +kernel)) rfl
theorem tb_1028 : Cond.fieldLink RX12 93 "WardWatchModel" "yearHouse" "[I" ∈ gw_tbl := mg (List.mem_of_getElem? (i := 1028) (by decide +kernel)) rfl
theorem tb_1029 : Cond.fieldLink RX12 96 "WardWatchModel" "yearHired" "[Z" ∈ gw_tbl := mg (List.mem_of_getElem? (i := 1029) (by decide +kernel)) rfl
theorem tb_1030 : Cond.fieldLink RX12 100 "WardWatchModel" "yearPaid" "[I" ∈ gw_tbl := mg (List.mem_of_getElem? (i := 1030) (by decide +kernel)) rfl
theorem tb_1031 : Cond.fieldLink RX12 103 "WardWatchModel" "chest" "[I" ∈ gw_tbl := mg (List.mem_of_getElem? (i := 1031) (by decide +kernel)) rfl
theorem tb_1032 : Cond.fieldLink RX12 271 "WardWatchModel" "charges" "I" ∈ gw_tbl := mg (List.mem_of_getElem? (i := 1032) (by decide +kernel)) rfl
theorem tb_1033 : Cond.fieldLink RX12 106 "WardWatchModel" "cWard" "[I" ∈ gw_tbl := mg (List.mem_of_getElem? (i := 1033) (by decide +kernel)) rfl
theorem tb_1034 : Cond.fieldLink RX12 109 "WardWatchModel" "cPower" "[I" ∈ gw_tbl := mg (List.mem_of_getElem? (i := 1034) (by decide +kernel)) rfl
theorem tb_1035 : Cond.fieldLink RX12 112 "WardWatchModel" "cHour" "[I" ∈ gw_tbl := mg (List.mem_of_getElem? (i := 1035) (by decide +kernel)) rfl
theorem tb_1036 : Cond.fieldLink RX12 115 "WardWatchModel" "cState" "[I" ∈ gw_tbl := mg (List.mem_of_getElem? (i := 1036) (by decide +kernel)) rfl
theorem tb_1037 : Cond.fieldLink RX12 118 "WardWatchModel" "cPlace" "[I" ∈ gw_tbl := mg (List.mem_of_getElem? (i := 1037) (by decide +kernel)) rfl
theorem tb_1038 : Cond.fieldLink RX12 121 "WardWatchModel" "fledMinutes" "I" ∈ gw_tbl := mg (List.mem_of_getElem? (i := 1038) (by decide +kernel)) rfl
theorem tb_1039 : Cond.fieldLink RX12 124 "WardWatchModel" "fledCourt" "I" ∈ gw_tbl := mg (List.mem_of_getElem? (i := 1039) (by decide +kernel)) rfl
theorem tb_1040 : Cond.fieldLink RX12 127 "WardWatchModel" "triangle" "[J" ∈ gw_tbl := mg (List.mem_of_getElem? (i := 1040) (by decide +kernel)) rfl
theorem tb_1041 : Cond.fieldLink RX12 295 "WardWatchModel" "isTriangle" "Z" ∈ gw_tbl := mg (List.mem_of_getElem? (i := 1041) (by decide +kernel)) rfl
theorem tb_1167 : Cond.methodLink RX12 192 yX12_isCourt ∈ gw_tbl := mg (List.mem_of_getElem? (i := 1167) (by decide +kernel)) rfl
theorem tb_1168 : Cond.static yX12_isCourt ∈ gw_tbl := mg (List.mem_of_getElem? (i := 1168) (by decide +kernel)) rfl
theorem tb_1169 : Cond.code yX12_isCourt cX12_isCourt 1 (some .boolean) ∈ gw_tbl := mg (List.mem_of_getElem? (i := 1169) (by decide +kernel)) rfl
theorem tb_1170 : Cond.methodLink RX12 188 yX12_in ∈ gw_tbl := mg (List.mem_of_getElem? (i := 1170) (by decide +kernel)) rfl
theorem tb_1171 : Cond.static yX12_in ∈ gw_tbl := mg (List.mem_of_getElem? (i := 1171) (by decide +kernel)) rfl
theorem tb_1172 : Cond.code yX12_in cX12_in 3 (some .boolean) ∈ gw_tbl := mg (List.mem_of_getElem? (i := 1172) (by decide +kernel)) rfl
theorem tb_1173 : Cond.methodLink RX12 195 yX12_isWard ∈ gw_tbl := mg (List.mem_of_getElem? (i := 1173) (by decide +kernel)) rfl
theorem tb_1174 : Cond.static yX12_isWard ∈ gw_tbl := mg (List.mem_of_getElem? (i := 1174) (by decide +kernel)) rfl
theorem tb_1175 : Cond.code yX12_isWard cX12_isWard 1 (some .boolean) ∈ gw_tbl := mg (List.mem_of_getElem? (i := 1175) (by decide +kernel)) rfl
theorem tb_1192 : Cond.methodLink RX12 202 yX12_least ∈ gw_tbl := mg (List.mem_of_getElem? (i := 1192) (by decide +kernel)) rfl
theorem tb_1193 : Cond.static yX12_least ∈ gw_tbl := mg (List.mem_of_getElem? (i := 1193) (by decide +kernel)) rfl
theorem tb_1194 : Cond.code yX12_least cX12_least 2 (some .int) ∈ gw_tbl := mg (List.mem_of_getElem? (i := 1194) (by decide +kernel)) rfl
theorem tb_1195 : Cond.methodLink RX12 205 yX12_farOf ∈ gw_tbl := mg (List.mem_of_getElem? (i := 1195) (by decide +kernel)) rfl
theorem tb_1197 : Cond.instanceMethod yX12_farOf ∈ gw_tbl := mg (List.mem_of_getElem? (i := 1197) (by decide +kernel)) rfl
theorem tb_1198 : Cond.code yX12_farOf cX12_farOf 3 (some .int) ∈ gw_tbl := mg (List.mem_of_getElem? (i := 1198) (by decide +kernel)) rfl
theorem tb_1215 : Cond.methodLink RX12 234 yX12_scan ∈ gw_tbl := mg (List.mem_of_getElem? (i := 1215) (by decide +kernel)) rfl
theorem tb_1217 : Cond.instanceMethod yX12_scan ∈ gw_tbl := mg (List.mem_of_getElem? (i := 1217) (by decide +kernel)) rfl
theorem tb_1218 : Cond.code yX12_scan cX12_scan 4 none ∈ gw_tbl := mg (List.mem_of_getElem? (i := 1218) (by decide +kernel)) rfl
theorem tb_1219 : Cond.methodLink RX12 156 yX12_see ∈ gw_tbl := mg (List.mem_of_getElem? (i := 1219) (by decide +kernel)) rfl
theorem tb_1221 : Cond.instanceMethod yX12_see ∈ gw_tbl := mg (List.mem_of_getElem? (i := 1221) (by decide +kernel)) rfl
theorem tb_1222 : Cond.code yX12_see cX12_see 2 (some .int) ∈ gw_tbl := mg (List.mem_of_getElem? (i := 1222) (by decide +kernel)) rfl
theorem tb_1223 : Cond.methodLink RX12 168 yX12_isSmall ∈ gw_tbl := mg (List.mem_of_getElem? (i := 1223) (by decide +kernel)) rfl
theorem tb_1224 : Cond.static yX12_isSmall ∈ gw_tbl := mg (List.mem_of_getElem? (i := 1224) (by decide +kernel)) rfl
theorem tb_1225 : Cond.code yX12_isSmall cX12_isSmall 1 (some .boolean) ∈ gw_tbl := mg (List.mem_of_getElem? (i := 1225) (by decide +kernel)) rfl
theorem tb_1226 : Cond.methodLink RX12 172 yX12_keyAt ∈ gw_tbl := mg (List.mem_of_getElem? (i := 1226) (by decide +kernel)) rfl
theorem tb_1228 : Cond.instanceMethod yX12_keyAt ∈ gw_tbl := mg (List.mem_of_getElem? (i := 1228) (by decide +kernel)) rfl
theorem tb_1229 : Cond.code yX12_keyAt cX12_keyAt 8 (some .int) ∈ gw_tbl := mg (List.mem_of_getElem? (i := 1229) (by decide +kernel)) rfl
theorem tb_1231 : Cond.methodLink RX12 146 yJ0_length_8abf5 ∈ gw_tbl := mg (List.mem_of_getElem? (i := 1231) (by decide +kernel)) rfl
theorem tb_1232 : Cond.methodLink RX12 152 yJ0_charAt_5068e ∈ gw_tbl := mg (List.mem_of_getElem? (i := 1232) (by decide +kernel)) rfl
theorem tb_1233 : Cond.methodLink RX12 179 yX12_isDigit ∈ gw_tbl := mg (List.mem_of_getElem? (i := 1233) (by decide +kernel)) rfl
theorem tb_1234 : Cond.static yX12_isDigit ∈ gw_tbl := mg (List.mem_of_getElem? (i := 1234) (by decide +kernel)) rfl
theorem tb_1235 : Cond.code yX12_isDigit cX12_isDigit 1 (some .boolean) ∈ gw_tbl := mg (List.mem_of_getElem? (i := 1235) (by decide +kernel)) rfl
theorem tb_1236 : Cond.methodLink RX12 253 yX12_readLine ∈ gw_tbl := mg (List.mem_of_getElem? (i := 1236) (by decide +kernel)) rfl
theorem tb_1238 : Cond.instanceMethod yX12_readLine ∈ gw_tbl := mg (List.mem_of_getElem? (i := 1238) (by decide +kernel)) rfl
theorem tb_1239 : Cond.code yX12_readLine cX12_readLine 3 (some .boolean) ∈ gw_tbl := mg (List.mem_of_getElem? (i := 1239) (by decide +kernel)) rfl
theorem tb_1240 : Cond.methodLink RX12 231 yX12_wrong ∈ gw_tbl := mg (List.mem_of_getElem? (i := 1240) (by decide +kernel)) rfl
theorem tb_1242 : Cond.instanceMethod yX12_wrong ∈ gw_tbl := mg (List.mem_of_getElem? (i := 1242) (by decide +kernel)) rfl
theorem tb_1243 : Cond.code yX12_wrong cX12_wrong 2 (some .boolean) ∈ gw_tbl := mg (List.mem_of_getElem? (i := 1243) (by decide +kernel)) rfl
theorem tb_1244 : Cond.methodLink RX12 247 yX12_readPower ∈ gw_tbl := mg (List.mem_of_getElem? (i := 1244) (by decide +kernel)) rfl
theorem tb_1246 : Cond.instanceMethod yX12_readPower ∈ gw_tbl := mg (List.mem_of_getElem? (i := 1246) (by decide +kernel)) rfl
theorem tb_1247 : Cond.code yX12_readPower cX12_readPower 2 (some .boolean) ∈ gw_tbl := mg (List.mem_of_getElem? (i := 1247) (by decide +kernel)) rfl
theorem tb_1248 : Cond.methodLink RX12 237 yX12_word ∈ gw_tbl := mg (List.mem_of_getElem? (i := 1248) (by decide +kernel)) rfl
theorem tb_1250 : Cond.instanceMethod yX12_word ∈ gw_tbl := mg (List.mem_of_getElem? (i := 1250) (by decide +kernel)) rfl
theorem tb_1251 : Cond.code yX12_word cX12_word 2 (some .boolean) ∈ gw_tbl := mg (List.mem_of_getElem? (i := 1251) (by decide +kernel)) rfl
theorem tb_1252 : Cond.methodLink RX12 240 yX12_hour ∈ gw_tbl := mg (List.mem_of_getElem? (i := 1252) (by decide +kernel)) rfl
theorem tb_1254 : Cond.instanceMethod yX12_hour ∈ gw_tbl := mg (List.mem_of_getElem? (i := 1254) (by decide +kernel)) rfl
theorem tb_1255 : Cond.code yX12_hour cX12_hour 2 (some .boolean) ∈ gw_tbl := mg (List.mem_of_getElem? (i := 1255) (by decide +kernel)) rfl
theorem tb_1256 : Cond.methodLink RX12 243 yX12_hasCry ∈ gw_tbl := mg (List.mem_of_getElem? (i := 1256) (by decide +kernel)) rfl
theorem tb_1258 : Cond.instanceMethod yX12_hasCry ∈ gw_tbl := mg (List.mem_of_getElem? (i := 1258) (by decide +kernel)) rfl
theorem tb_1259 : Cond.code yX12_hasCry cX12_hasCry 2 (some .boolean) ∈ gw_tbl := mg (List.mem_of_getElem? (i := 1259) (by decide +kernel)) rfl
theorem tb_1260 : Cond.methodLink RX12 250 yX12_number ∈ gw_tbl := mg (List.mem_of_getElem? (i := 1260) (by decide +kernel)) rfl
theorem tb_1262 : Cond.instanceMethod yX12_number ∈ gw_tbl := mg (List.mem_of_getElem? (i := 1262) (by decide +kernel)) rfl
theorem tb_1263 : Cond.code yX12_number cX12_number 4 (some .boolean) ∈ gw_tbl := mg (List.mem_of_getElem? (i := 1263) (by decide +kernel)) rfl
theorem tb_1276 : Cond.methodLink RX12 256 yX12_isGiven ∈ gw_tbl := mg (List.mem_of_getElem? (i := 1276) (by decide +kernel)) rfl
theorem tb_1278 : Cond.instanceMethod yX12_isGiven ∈ gw_tbl := mg (List.mem_of_getElem? (i := 1278) (by decide +kernel)) rfl
theorem tb_1279 : Cond.code yX12_isGiven cX12_isGiven 8 (some .boolean) ∈ gw_tbl := mg (List.mem_of_getElem? (i := 1279) (by decide +kernel)) rfl
theorem tb_1288 : Cond.methodLink RX12 263 yX12_isHouse ∈ gw_tbl := mg (List.mem_of_getElem? (i := 1288) (by decide +kernel)) rfl
theorem tb_1290 : Cond.instanceMethod yX12_isHouse ∈ gw_tbl := mg (List.mem_of_getElem? (i := 1290) (by decide +kernel)) rfl
theorem tb_1291 : Cond.code yX12_isHouse cX12_isHouse 2 (some .boolean) ∈ gw_tbl := mg (List.mem_of_getElem? (i := 1291) (by decide +kernel)) rfl
theorem tb_1292 : Cond.constant RX12 266 (100000) ∈ gw_tbl := mg (List.mem_of_getElem? (i := 1292) (by decide +kernel)) rfl
theorem tb_1301 : Cond.methodLink RX12 267 yX12_turns ∈ gw_tbl := mg (List.mem_of_getElem? (i := 1301) (by decide +kernel)) rfl
theorem tb_1303 : Cond.instanceMethod yX12_turns ∈ gw_tbl := mg (List.mem_of_getElem? (i := 1303) (by decide +kernel)) rfl
theorem tb_1304 : Cond.code yX12_turns cX12_turns 7 none ∈ gw_tbl := mg (List.mem_of_getElem? (i := 1304) (by decide +kernel)) rfl
theorem tb_1317 : Cond.methodLink RX12 280 yX12_placeFor ∈ gw_tbl := mg (List.mem_of_getElem? (i := 1317) (by decide +kernel)) rfl
theorem tb_1319 : Cond.instanceMethod yX12_placeFor ∈ gw_tbl := mg (List.mem_of_getElem? (i := 1319) (by decide +kernel)) rfl
theorem tb_1320 : Cond.code yX12_placeFor cX12_placeFor 6 (some .int) ∈ gw_tbl := mg (List.mem_of_getElem? (i := 1320) (by decide +kernel)) rfl
theorem tb_1321 : Cond.methodLink RX12 277 yX12_hasPlace ∈ gw_tbl := mg (List.mem_of_getElem? (i := 1321) (by decide +kernel)) rfl
theorem tb_1323 : Cond.instanceMethod yX12_hasPlace ∈ gw_tbl := mg (List.mem_of_getElem? (i := 1323) (by decide +kernel)) rfl
theorem tb_1324 : Cond.code yX12_hasPlace cX12_hasPlace 2 (some .boolean) ∈ gw_tbl := mg (List.mem_of_getElem? (i := 1324) (by decide +kernel)) rfl
theorem tb_1325 : Cond.methodLink RX12 274 yX12_lying ∈ gw_tbl := mg (List.mem_of_getElem? (i := 1325) (by decide +kernel)) rfl
theorem tb_1327 : Cond.instanceMethod yX12_lying ∈ gw_tbl := mg (List.mem_of_getElem? (i := 1327) (by decide +kernel)) rfl
theorem tb_1328 : Cond.code yX12_lying cX12_lying 4 (some .int) ∈ gw_tbl := mg (List.mem_of_getElem? (i := 1328) (by decide +kernel)) rfl
theorem tb_1349 : Cond.methodLink RX12 284 yX12_isSome ∈ gw_tbl := mg (List.mem_of_getElem? (i := 1349) (by decide +kernel)) rfl
theorem tb_1350 : Cond.static yX12_isSome ∈ gw_tbl := mg (List.mem_of_getElem? (i := 1350) (by decide +kernel)) rfl
theorem tb_1351 : Cond.code yX12_isSome cX12_isSome 1 (some .boolean) ∈ gw_tbl := mg (List.mem_of_getElem? (i := 1351) (by decide +kernel)) rfl
theorem tb_1352 : Cond.constantLong RX12 287 (-2) ∈ gw_tbl := mg (List.mem_of_getElem? (i := 1352) (by decide +kernel)) rfl
theorem tb_1353 : Cond.methodLink RX12 289 yX12_chosen ∈ gw_tbl := mg (List.mem_of_getElem? (i := 1353) (by decide +kernel)) rfl
theorem tb_1355 : Cond.instanceMethod yX12_chosen ∈ gw_tbl := mg (List.mem_of_getElem? (i := 1355) (by decide +kernel)) rfl
theorem tb_1356 : Cond.code yX12_chosen cX12_chosen 5 (some .long) ∈ gw_tbl := mg (List.mem_of_getElem? (i := 1356) (by decide +kernel)) rfl
theorem tb_1357 : Cond.constantLong RX12 293 (20) ∈ gw_tbl := mg (List.mem_of_getElem? (i := 1357) (by decide +kernel)) rfl
theorem tb_1362 : Cond.fieldLink RJ0 9 "java/lang/String" "value" "[B" ∈ gw_tbl := mg (List.mem_of_getElem? (i := 1362) (by decide +kernel)) rfl
theorem tb_1363 : Cond.fieldLink RJ0 15 "java/lang/String" "coder" "B" ∈ gw_tbl := mg (List.mem_of_getElem? (i := 1363) (by decide +kernel)) rfl
theorem inX0 : ∀ w ∈ u_ws RX0 TX0 5, w ∈ gw_tbl := fun w hw => mg ((by decide +kernel : ∀ w ∈ u_ws RX0 TX0 5, w ∈ lw_tbl) w hw) ((by decide +kernel : ∀ w ∈ u_ws RX0 TX0 5, goodWord w = true) w hw)
theorem inX1 : ∀ w ∈ u_ws RX1 TX1 4, w ∈ gw_tbl := fun w hw => mg ((by decide +kernel : ∀ w ∈ u_ws RX1 TX1 4, w ∈ lw_tbl) w hw) ((by decide +kernel : ∀ w ∈ u_ws RX1 TX1 4, goodWord w = true) w hw)
theorem inX2 : ∀ w ∈ u_ws RX2 TX2 6, w ∈ gw_tbl := fun w hw => mg ((by decide +kernel : ∀ w ∈ u_ws RX2 TX2 6, w ∈ lw_tbl) w hw) ((by decide +kernel : ∀ w ∈ u_ws RX2 TX2 6, goodWord w = true) w hw)
theorem inX3 : ∀ w ∈ u_ws RX3 TX3 8, w ∈ gw_tbl := fun w hw => mg ((by decide +kernel : ∀ w ∈ u_ws RX3 TX3 8, w ∈ lw_tbl) w hw) ((by decide +kernel : ∀ w ∈ u_ws RX3 TX3 8, goodWord w = true) w hw)
theorem inX4 : ∀ w ∈ u_ws RX4 TX4 13, w ∈ gw_tbl := fun w hw => mg ((by decide +kernel : ∀ w ∈ u_ws RX4 TX4 13, w ∈ lw_tbl) w hw) ((by decide +kernel : ∀ w ∈ u_ws RX4 TX4 13, goodWord w = true) w hw)
theorem inX5 : ∀ w ∈ u_ws RX5 TX5 2, w ∈ gw_tbl := fun w hw => mg ((by decide +kernel : ∀ w ∈ u_ws RX5 TX5 2, w ∈ lw_tbl) w hw) ((by decide +kernel : ∀ w ∈ u_ws RX5 TX5 2, goodWord w = true) w hw)
theorem inX6 : ∀ w ∈ u_ws RX6 TX6 12, w ∈ gw_tbl := fun w hw => mg ((by decide +kernel : ∀ w ∈ u_ws RX6 TX6 12, w ∈ lw_tbl) w hw) ((by decide +kernel : ∀ w ∈ u_ws RX6 TX6 12, goodWord w = true) w hw)
theorem inX7 : ∀ w ∈ u_ws RX7 TX7 2, w ∈ gw_tbl := fun w hw => mg ((by decide +kernel : ∀ w ∈ u_ws RX7 TX7 2, w ∈ lw_tbl) w hw) ((by decide +kernel : ∀ w ∈ u_ws RX7 TX7 2, goodWord w = true) w hw)
theorem inX8 : ∀ w ∈ u_ws RX8 TX8 2, w ∈ gw_tbl := fun w hw => mg ((by decide +kernel : ∀ w ∈ u_ws RX8 TX8 2, w ∈ lw_tbl) w hw) ((by decide +kernel : ∀ w ∈ u_ws RX8 TX8 2, goodWord w = true) w hw)
theorem inX9 : ∀ w ∈ u_ws RX9 TX9 5, w ∈ gw_tbl := fun w hw => mg ((by decide +kernel : ∀ w ∈ u_ws RX9 TX9 5, w ∈ lw_tbl) w hw) ((by decide +kernel : ∀ w ∈ u_ws RX9 TX9 5, goodWord w = true) w hw)
theorem inX10 : ∀ w ∈ u_ws RX10 TX10 9, w ∈ gw_tbl := fun w hw => mg ((by decide +kernel : ∀ w ∈ u_ws RX10 TX10 9, w ∈ lw_tbl) w hw) ((by decide +kernel : ∀ w ∈ u_ws RX10 TX10 9, goodWord w = true) w hw)
theorem inX11 : ∀ w ∈ u_ws RX11 TX11 9, w ∈ gw_tbl := fun w hw => mg ((by decide +kernel : ∀ w ∈ u_ws RX11 TX11 9, w ∈ lw_tbl) w hw) ((by decide +kernel : ∀ w ∈ u_ws RX11 TX11 9, goodWord w = true) w hw)
theorem inX12 : ∀ w ∈ u_ws RX12 TX12 56, w ∈ gw_tbl := fun w hw => mg ((by decide +kernel : ∀ w ∈ u_ws RX12 TX12 56, w ∈ lw_tbl) w hw) ((by decide +kernel : ∀ w ∈ u_ws RX12 TX12 56, goodWord w = true) w hw)
theorem fd_11_0 : FD 11 0 RX11 TX11 9 1 "WardWatch" "tape" "LWardWatch$Tape;" := ⟨inX11, rfl, rfl, by decide, by decide, rfl, rfl, rfl⟩
theorem fd_11_1 : FD 11 1 RX11 TX11 9 1 "WardWatch" "town" "LWardWatch$Town;" := ⟨inX11, rfl, rfl, by decide, by decide, rfl, rfl, rfl⟩
theorem fd_11_2 : FD 11 2 RX11 TX11 9 1 "WardWatch" "planner" "LWardWatch$Planner;" := ⟨inX11, rfl, rfl, by decide, by decide, rfl, rfl, rfl⟩
theorem fd_11_3 : FD 11 3 RX11 TX11 9 1 "WardWatch" "reader" "LWardWatch$LawReader;" := ⟨inX11, rfl, rfl, by decide, by decide, rfl, rfl, rfl⟩
theorem fd_11_4 : FD 11 4 RX11 TX11 9 1 "WardWatch" "wards" "[LWardWatch$Ward;" := ⟨inX11, rfl, rfl, by decide, by decide, rfl, rfl, rfl⟩
theorem fd_11_5 : FD 11 5 RX11 TX11 9 1 "WardWatch" "roll" "LWardWatch$Roll;" := ⟨inX11, rfl, rfl, by decide, by decide, rfl, rfl, rfl⟩
theorem fd_11_6 : FD 11 6 RX11 TX11 9 1 "WardWatch" "nights" "LWardWatch$Nights;" := ⟨inX11, rfl, rfl, by decide, by decide, rfl, rfl, rfl⟩
theorem fd_11_7 : FD 11 7 RX11 TX11 9 1 "WardWatch" "flight" "LWardWatch$Flight;" := ⟨inX11, rfl, rfl, by decide, by decide, rfl, rfl, rfl⟩
theorem fd_11_8 : FD 11 8 RX11 TX11 9 1 "WardWatch" "draft" "LWardWatch$Laws;" := ⟨inX11, rfl, rfl, by decide, by decide, rfl, rfl, rfl⟩
theorem fd_0_0 : FD 0 0 RX0 TX0 5 0 "WardWatch$Charge" "ward" "I" := ⟨inX0, rfl, rfl, by decide, by decide, rfl, rfl, rfl⟩
theorem fd_0_1 : FD 0 1 RX0 TX0 5 0 "WardWatch$Charge" "power" "I" := ⟨inX0, rfl, rfl, by decide, by decide, rfl, rfl, rfl⟩
theorem fd_0_2 : FD 0 2 RX0 TX0 5 0 "WardWatch$Charge" "hour" "I" := ⟨inX0, rfl, rfl, by decide, by decide, rfl, rfl, rfl⟩
theorem fd_0_3 : FD 0 3 RX0 TX0 5 0 "WardWatch$Charge" "state" "I" := ⟨inX0, rfl, rfl, by decide, by decide, rfl, rfl, rfl⟩
theorem fd_0_4 : FD 0 4 RX0 TX0 5 0 "WardWatch$Charge" "lockup" "I" := ⟨inX0, rfl, rfl, by decide, by decide, rfl, rfl, rfl⟩
theorem fd_1_0 : FD 1 0 RX1 TX1 4 1 "WardWatch$Flight" "row" "[I" := ⟨inX1, rfl, rfl, by decide, by decide, rfl, rfl, rfl⟩
theorem fd_1_1 : FD 1 1 RX1 TX1 4 0 "WardWatch$Flight" "courts" "I" := ⟨inX1, rfl, rfl, by decide, by decide, rfl, rfl, rfl⟩
theorem fd_1_2 : FD 1 2 RX1 TX1 4 0 "WardWatch$Flight" "minutes" "I" := ⟨inX1, rfl, rfl, by decide, by decide, rfl, rfl, rfl⟩
theorem fd_1_3 : FD 1 3 RX1 TX1 4 0 "WardWatch$Flight" "lastCourt" "I" := ⟨inX1, rfl, rfl, by decide, by decide, rfl, rfl, rfl⟩
theorem fd_2_0 : FD 2 0 RX2 TX2 6 0 "WardWatch$House" "ward" "I" := ⟨inX2, rfl, rfl, by decide, by decide, rfl, rfl, rfl⟩
theorem fd_2_1 : FD 2 1 RX2 TX2 6 0 "WardWatch$House" "born" "I" := ⟨inX2, rfl, rfl, by decide, by decide, rfl, rfl, rfl⟩
theorem fd_2_2 : FD 2 2 RX2 TX2 6 0 "WardWatch$House" "purse" "I" := ⟨inX2, rfl, rfl, by decide, by decide, rfl, rfl, rfl⟩
theorem fd_2_3 : FD 2 3 RX2 TX2 6 0 "WardWatch$House" "would" "I" := ⟨inX2, rfl, rfl, by decide, by decide, rfl, rfl, rfl⟩
theorem fd_2_4 : FD 2 4 RX2 TX2 6 0 "WardWatch$House" "lastYear" "I" := ⟨inX2, rfl, rfl, by decide, by decide, rfl, rfl, rfl⟩
theorem fd_2_5 : FD 2 5 RX2 TX2 6 0 "WardWatch$House" "times" "I" := ⟨inX2, rfl, rfl, by decide, by decide, rfl, rfl, rfl⟩
theorem fd_3_0 : FD 3 0 RX3 TX3 8 1 "WardWatch$LawReader" "tape" "LWardWatch$Tape;" := ⟨inX3, rfl, rfl, by decide, by decide, rfl, rfl, rfl⟩
theorem fd_3_1 : FD 3 1 RX3 TX3 8 0 "WardWatch$LawReader" "kind" "I" := ⟨inX3, rfl, rfl, by decide, by decide, rfl, rfl, rfl⟩
theorem fd_3_2 : FD 3 2 RX3 TX3 8 0 "WardWatch$LawReader" "start" "I" := ⟨inX3, rfl, rfl, by decide, by decide, rfl, rfl, rfl⟩
theorem fd_3_3 : FD 3 3 RX3 TX3 8 0 "WardWatch$LawReader" "stop" "I" := ⟨inX3, rfl, rfl, by decide, by decide, rfl, rfl, rfl⟩
theorem fd_3_4 : FD 3 4 RX3 TX3 8 0 "WardWatch$LawReader" "value" "I" := ⟨inX3, rfl, rfl, by decide, by decide, rfl, rfl, rfl⟩
theorem fd_3_5 : FD 3 5 RX3 TX3 8 0 "WardWatch$LawReader" "linesTold" "I" := ⟨inX3, rfl, rfl, by decide, by decide, rfl, rfl, rfl⟩
theorem fd_3_6 : FD 3 6 RX3 TX3 8 0 "WardWatch$LawReader" "faultKind" "I" := ⟨inX3, rfl, rfl, by decide, by decide, rfl, rfl, rfl⟩
theorem fd_3_7 : FD 3 7 RX3 TX3 8 0 "WardWatch$LawReader" "faultPlace" "I" := ⟨inX3, rfl, rfl, by decide, by decide, rfl, rfl, rfl⟩
theorem fd_4_0 : FD 4 0 RX4 TX4 13 0 "WardWatch$Laws" "ageFrom" "I" := ⟨inX4, rfl, rfl, by decide, by decide, rfl, rfl, rfl⟩
theorem fd_4_1 : FD 4 1 RX4 TX4 13 0 "WardWatch$Laws" "ageTo" "I" := ⟨inX4, rfl, rfl, by decide, by decide, rfl, rfl, rfl⟩
theorem fd_4_2 : FD 4 2 RX4 TX4 13 0 "WardWatch$Laws" "leave" "I" := ⟨inX4, rfl, rfl, by decide, by decide, rfl, rfl, rfl⟩
theorem fd_4_3 : FD 4 3 RX4 TX4 13 0 "WardWatch$Laws" "fine" "I" := ⟨inX4, rfl, rfl, by decide, by decide, rfl, rfl, rfl⟩
theorem fd_4_4 : FD 4 4 RX4 TX4 13 0 "WardWatch$Laws" "hire" "I" := ⟨inX4, rfl, rfl, by decide, by decide, rfl, rfl, rfl⟩
theorem fd_4_5 : FD 4 5 RX4 TX4 13 0 "WardWatch$Laws" "follow" "I" := ⟨inX4, rfl, rfl, by decide, by decide, rfl, rfl, rfl⟩
theorem fd_4_6 : FD 4 6 RX4 TX4 13 0 "WardWatch$Laws" "followNeedsCry" "Z" := ⟨inX4, rfl, rfl, by decide, by decide, rfl, rfl, rfl⟩
theorem fd_4_7 : FD 4 7 RX4 TX4 13 0 "WardWatch$Laws" "lockup" "I" := ⟨inX4, rfl, rfl, by decide, by decide, rfl, rfl, rfl⟩
theorem fd_4_8 : FD 4 8 RX4 TX4 13 0 "WardWatch$Laws" "powers" "I" := ⟨inX4, rfl, rfl, by decide, by decide, rfl, rfl, rfl⟩
theorem fd_4_9 : FD 4 9 RX4 TX4 13 1 "WardWatch$Laws" "power" "[I" := ⟨inX4, rfl, rfl, by decide, by decide, rfl, rfl, rfl⟩
theorem fd_4_10 : FD 4 10 RX4 TX4 13 1 "WardWatch$Laws" "from" "[I" := ⟨inX4, rfl, rfl, by decide, by decide, rfl, rfl, rfl⟩
theorem fd_4_11 : FD 4 11 RX4 TX4 13 1 "WardWatch$Laws" "to" "[I" := ⟨inX4, rfl, rfl, by decide, by decide, rfl, rfl, rfl⟩
theorem fd_4_12 : FD 4 12 RX4 TX4 13 1 "WardWatch$Laws" "needsCry" "[Z" := ⟨inX4, rfl, rfl, by decide, by decide, rfl, rfl, rfl⟩
theorem fd_5_0 : FD 5 0 RX5 TX5 2 1 "WardWatch$Nights" "charges" "[LWardWatch$Charge;" := ⟨inX5, rfl, rfl, by decide, by decide, rfl, rfl, rfl⟩
theorem fd_5_1 : FD 5 1 RX5 TX5 2 0 "WardWatch$Nights" "size" "I" := ⟨inX5, rfl, rfl, by decide, by decide, rfl, rfl, rfl⟩
theorem fd_6_0 : FD 6 0 RX6 TX6 12 1 "WardWatch$Planner" "courts" "[I" := ⟨inX6, rfl, rfl, by decide, by decide, rfl, rfl, rfl⟩
theorem fd_6_1 : FD 6 1 RX6 TX6 12 1 "WardWatch$Planner" "steps" "[I" := ⟨inX6, rfl, rfl, by decide, by decide, rfl, rfl, rfl⟩
theorem fd_6_2 : FD 6 2 RX6 TX6 12 1 "WardWatch$Planner" "paths" "[I" := ⟨inX6, rfl, rfl, by decide, by decide, rfl, rfl, rfl⟩
theorem fd_6_3 : FD 6 3 RX6 TX6 12 1 "WardWatch$Planner" "tours" "[I" := ⟨inX6, rfl, rfl, by decide, by decide, rfl, rfl, rfl⟩
theorem fd_6_4 : FD 6 4 RX6 TX6 12 1 "WardWatch$Planner" "plans" "[J" := ⟨inX6, rfl, rfl, by decide, by decide, rfl, rfl, rfl⟩
theorem fd_6_5 : FD 6 5 RX6 TX6 12 1 "WardWatch$Planner" "ones" "[J" := ⟨inX6, rfl, rfl, by decide, by decide, rfl, rfl, rfl⟩
theorem fd_6_6 : FD 6 6 RX6 TX6 12 0 "WardWatch$Planner" "places" "I" := ⟨inX6, rfl, rfl, by decide, by decide, rfl, rfl, rfl⟩
theorem fd_6_7 : FD 6 7 RX6 TX6 12 0 "WardWatch$Planner" "men" "I" := ⟨inX6, rfl, rfl, by decide, by decide, rfl, rfl, rfl⟩
theorem fd_6_8 : FD 6 8 RX6 TX6 12 0 "WardWatch$Planner" "sum" "I" := ⟨inX6, rfl, rfl, by decide, by decide, rfl, rfl, rfl⟩
theorem fd_6_9 : FD 6 9 RX6 TX6 12 1 "WardWatch$Planner" "manOf" "[I" := ⟨inX6, rfl, rfl, by decide, by decide, rfl, rfl, rfl⟩
theorem fd_6_10 : FD 6 10 RX6 TX6 12 1 "WardWatch$Planner" "lengths" "[I" := ⟨inX6, rfl, rfl, by decide, by decide, rfl, rfl, rfl⟩
theorem fd_6_11 : FD 6 11 RX6 TX6 12 1 "WardWatch$Planner" "courtsOf" "[I" := ⟨inX6, rfl, rfl, by decide, by decide, rfl, rfl, rfl⟩
theorem fd_7_0 : FD 7 0 RX7 TX7 2 1 "WardWatch$Roll" "houses" "[LWardWatch$House;" := ⟨inX7, rfl, rfl, by decide, by decide, rfl, rfl, rfl⟩
theorem fd_7_1 : FD 7 1 RX7 TX7 2 0 "WardWatch$Roll" "size" "I" := ⟨inX7, rfl, rfl, by decide, by decide, rfl, rfl, rfl⟩
theorem fd_8_0 : FD 8 0 RX8 TX8 2 1 "WardWatch$Tape" "bytes" "[B" := ⟨inX8, rfl, rfl, by decide, by decide, rfl, rfl, rfl⟩
theorem fd_8_1 : FD 8 1 RX8 TX8 2 0 "WardWatch$Tape" "length" "I" := ⟨inX8, rfl, rfl, by decide, by decide, rfl, rfl, rfl⟩
theorem fd_9_0 : FD 9 0 RX9 TX9 5 1 "WardWatch$Town" "wardOf" "[I" := ⟨inX9, rfl, rfl, by decide, by decide, rfl, rfl, rfl⟩
theorem fd_9_1 : FD 9 1 RX9 TX9 5 1 "WardWatch$Town" "withinOf" "[I" := ⟨inX9, rfl, rfl, by decide, by decide, rfl, rfl, rfl⟩
theorem fd_9_2 : FD 9 2 RX9 TX9 5 1 "WardWatch$Town" "ways" "[I" := ⟨inX9, rfl, rfl, by decide, by decide, rfl, rfl, rfl⟩
theorem fd_9_3 : FD 9 3 RX9 TX9 5 1 "WardWatch$Town" "fars" "[I" := ⟨inX9, rfl, rfl, by decide, by decide, rfl, rfl, rfl⟩
theorem fd_9_4 : FD 9 4 RX9 TX9 5 0 "WardWatch$Town" "stale" "Z" := ⟨inX9, rfl, rfl, by decide, by decide, rfl, rfl, rfl⟩
theorem fd_10_0 : FD 10 0 RX10 TX10 9 1 "WardWatch$Ward" "laws" "LWardWatch$Laws;" := ⟨inX10, rfl, rfl, by decide, by decide, rfl, rfl, rfl⟩
theorem fd_10_1 : FD 10 1 RX10 TX10 9 0 "WardWatch$Ward" "chest" "I" := ⟨inX10, rfl, rfl, by decide, by decide, rfl, rfl, rfl⟩
theorem fd_10_2 : FD 10 2 RX10 TX10 9 0 "WardWatch$Ward" "lying" "I" := ⟨inX10, rfl, rfl, by decide, by decide, rfl, rfl, rfl⟩
theorem fd_10_3 : FD 10 3 RX10 TX10 9 0 "WardWatch$Ward" "turn" "I" := ⟨inX10, rfl, rfl, by decide, by decide, rfl, rfl, rfl⟩
theorem fd_10_4 : FD 10 4 RX10 TX10 9 0 "WardWatch$Ward" "firstYear" "I" := ⟨inX10, rfl, rfl, by decide, by decide, rfl, rfl, rfl⟩
theorem fd_10_5 : FD 10 5 RX10 TX10 9 0 "WardWatch$Ward" "latestYear" "I" := ⟨inX10, rfl, rfl, by decide, by decide, rfl, rfl, rfl⟩
theorem fd_10_6 : FD 10 6 RX10 TX10 9 1 "WardWatch$Ward" "constables" "[I" := ⟨inX10, rfl, rfl, by decide, by decide, rfl, rfl, rfl⟩
theorem fd_10_7 : FD 10 7 RX10 TX10 9 1 "WardWatch$Ward" "hired" "[Z" := ⟨inX10, rfl, rfl, by decide, by decide, rfl, rfl, rfl⟩
theorem fd_10_8 : FD 10 8 RX10 TX10 9 1 "WardWatch$Ward" "payers" "[I" := ⟨inX10, rfl, rfl, by decide, by decide, rfl, rfl, rfl⟩
theorem fd_12_0 : FD 12 0 RX12 TX12 56 1 "WardWatchModel" "tape" "[B" := ⟨inX12, rfl, rfl, by decide, by decide, rfl, rfl, rfl⟩
theorem fd_12_1 : FD 12 1 RX12 TX12 56 0 "WardWatchModel" "taped" "I" := ⟨inX12, rfl, rfl, by decide, by decide, rfl, rfl, rfl⟩
theorem fd_12_2 : FD 12 2 RX12 TX12 56 0 "WardWatchModel" "size" "I" := ⟨inX12, rfl, rfl, by decide, by decide, rfl, rfl, rfl⟩
theorem fd_12_3 : FD 12 3 RX12 TX12 56 0 "WardWatchModel" "sort" "I" := ⟨inX12, rfl, rfl, by decide, by decide, rfl, rfl, rfl⟩
theorem fd_12_4 : FD 12 4 RX12 TX12 56 0 "WardWatchModel" "what" "I" := ⟨inX12, rfl, rfl, by decide, by decide, rfl, rfl, rfl⟩
theorem fd_12_5 : FD 12 5 RX12 TX12 56 0 "WardWatchModel" "at" "I" := ⟨inX12, rfl, rfl, by decide, by decide, rfl, rfl, rfl⟩
theorem fd_12_6 : FD 12 6 RX12 TX12 56 0 "WardWatchModel" "end" "I" := ⟨inX12, rfl, rfl, by decide, by decide, rfl, rfl, rfl⟩
theorem fd_12_7 : FD 12 7 RX12 TX12 56 0 "WardWatchModel" "worth" "I" := ⟨inX12, rfl, rfl, by decide, by decide, rfl, rfl, rfl⟩
theorem fd_12_8 : FD 12 8 RX12 TX12 56 0 "WardWatchModel" "faultKind" "I" := ⟨inX12, rfl, rfl, by decide, by decide, rfl, rfl, rfl⟩
theorem fd_12_9 : FD 12 9 RX12 TX12 56 0 "WardWatchModel" "faultPlace" "I" := ⟨inX12, rfl, rfl, by decide, by decide, rfl, rfl, rfl⟩
theorem fd_12_10 : FD 12 10 RX12 TX12 56 1 "WardWatchModel" "ward" "[I" := ⟨inX12, rfl, rfl, by decide, by decide, rfl, rfl, rfl⟩
theorem fd_12_11 : FD 12 11 RX12 TX12 56 1 "WardWatchModel" "within" "[I" := ⟨inX12, rfl, rfl, by decide, by decide, rfl, rfl, rfl⟩
theorem fd_12_12 : FD 12 12 RX12 TX12 56 1 "WardWatchModel" "ways" "[I" := ⟨inX12, rfl, rfl, by decide, by decide, rfl, rfl, rfl⟩
theorem fd_12_13 : FD 12 13 RX12 TX12 56 1 "WardWatchModel" "fars" "[I" := ⟨inX12, rfl, rfl, by decide, by decide, rfl, rfl, rfl⟩
theorem fd_12_14 : FD 12 14 RX12 TX12 56 1 "WardWatchModel" "of" "[I" := ⟨inX12, rfl, rfl, by decide, by decide, rfl, rfl, rfl⟩
theorem fd_12_15 : FD 12 15 RX12 TX12 56 0 "WardWatchModel" "many" "I" := ⟨inX12, rfl, rfl, by decide, by decide, rfl, rfl, rfl⟩
theorem fd_12_16 : FD 12 16 RX12 TX12 56 1 "WardWatchModel" "path" "[I" := ⟨inX12, rfl, rfl, by decide, by decide, rfl, rfl, rfl⟩
theorem fd_12_17 : FD 12 17 RX12 TX12 56 1 "WardWatchModel" "lengthOf" "[I" := ⟨inX12, rfl, rfl, by decide, by decide, rfl, rfl, rfl⟩
theorem fd_12_23 : FD 12 23 RX12 TX12 56 0 "WardWatchModel" "hasRounds" "Z" := ⟨inX12, rfl, rfl, by decide, by decide, rfl, rfl, rfl⟩
theorem fd_12_24 : FD 12 24 RX12 TX12 56 0 "WardWatchModel" "men" "I" := ⟨inX12, rfl, rfl, by decide, by decide, rfl, rfl, rfl⟩
theorem fd_12_25 : FD 12 25 RX12 TX12 56 0 "WardWatchModel" "lengths" "I" := ⟨inX12, rfl, rfl, by decide, by decide, rfl, rfl, rfl⟩
theorem fd_12_26 : FD 12 26 RX12 TX12 56 1 "WardWatchModel" "man" "[I" := ⟨inX12, rfl, rfl, by decide, by decide, rfl, rfl, rfl⟩
theorem fd_12_27 : FD 12 27 RX12 TX12 56 1 "WardWatchModel" "manLength" "[I" := ⟨inX12, rfl, rfl, by decide, by decide, rfl, rfl, rfl⟩
theorem fd_12_28 : FD 12 28 RX12 TX12 56 1 "WardWatchModel" "manCourts" "[I" := ⟨inX12, rfl, rfl, by decide, by decide, rfl, rfl, rfl⟩
theorem fd_12_29 : FD 12 29 RX12 TX12 56 1 "WardWatchModel" "laws" "[I" := ⟨inX12, rfl, rfl, by decide, by decide, rfl, rfl, rfl⟩
theorem fd_12_30 : FD 12 30 RX12 TX12 56 1 "WardWatchModel" "powers" "[I" := ⟨inX12, rfl, rfl, by decide, by decide, rfl, rfl, rfl⟩
theorem fd_12_31 : FD 12 31 RX12 TX12 56 1 "WardWatchModel" "powerMany" "[I" := ⟨inX12, rfl, rfl, by decide, by decide, rfl, rfl, rfl⟩
theorem fd_12_32 : FD 12 32 RX12 TX12 56 0 "WardWatchModel" "houses" "I" := ⟨inX12, rfl, rfl, by decide, by decide, rfl, rfl, rfl⟩
theorem fd_12_33 : FD 12 33 RX12 TX12 56 1 "WardWatchModel" "hWard" "[I" := ⟨inX12, rfl, rfl, by decide, by decide, rfl, rfl, rfl⟩
theorem fd_12_34 : FD 12 34 RX12 TX12 56 1 "WardWatchModel" "hBorn" "[I" := ⟨inX12, rfl, rfl, by decide, by decide, rfl, rfl, rfl⟩
theorem fd_12_35 : FD 12 35 RX12 TX12 56 1 "WardWatchModel" "hPurse" "[I" := ⟨inX12, rfl, rfl, by decide, by decide, rfl, rfl, rfl⟩
theorem fd_12_36 : FD 12 36 RX12 TX12 56 1 "WardWatchModel" "hWould" "[I" := ⟨inX12, rfl, rfl, by decide, by decide, rfl, rfl, rfl⟩
theorem fd_12_37 : FD 12 37 RX12 TX12 56 1 "WardWatchModel" "hLast" "[I" := ⟨inX12, rfl, rfl, by decide, by decide, rfl, rfl, rfl⟩
theorem fd_12_38 : FD 12 38 RX12 TX12 56 1 "WardWatchModel" "hOften" "[I" := ⟨inX12, rfl, rfl, by decide, by decide, rfl, rfl, rfl⟩
theorem fd_12_39 : FD 12 39 RX12 TX12 56 1 "WardWatchModel" "lastYear" "[I" := ⟨inX12, rfl, rfl, by decide, by decide, rfl, rfl, rfl⟩
theorem fd_12_40 : FD 12 40 RX12 TX12 56 1 "WardWatchModel" "lastTurn" "[I" := ⟨inX12, rfl, rfl, by decide, by decide, rfl, rfl, rfl⟩
theorem fd_12_41 : FD 12 41 RX12 TX12 56 1 "WardWatchModel" "firstYear" "[I" := ⟨inX12, rfl, rfl, by decide, by decide, rfl, rfl, rfl⟩
theorem fd_12_42 : FD 12 42 RX12 TX12 56 1 "WardWatchModel" "yearHouse" "[I" := ⟨inX12, rfl, rfl, by decide, by decide, rfl, rfl, rfl⟩
theorem fd_12_43 : FD 12 43 RX12 TX12 56 1 "WardWatchModel" "yearHired" "[Z" := ⟨inX12, rfl, rfl, by decide, by decide, rfl, rfl, rfl⟩
theorem fd_12_44 : FD 12 44 RX12 TX12 56 1 "WardWatchModel" "yearPaid" "[I" := ⟨inX12, rfl, rfl, by decide, by decide, rfl, rfl, rfl⟩
theorem fd_12_45 : FD 12 45 RX12 TX12 56 1 "WardWatchModel" "chest" "[I" := ⟨inX12, rfl, rfl, by decide, by decide, rfl, rfl, rfl⟩
theorem fd_12_46 : FD 12 46 RX12 TX12 56 0 "WardWatchModel" "charges" "I" := ⟨inX12, rfl, rfl, by decide, by decide, rfl, rfl, rfl⟩
theorem fd_12_47 : FD 12 47 RX12 TX12 56 1 "WardWatchModel" "cWard" "[I" := ⟨inX12, rfl, rfl, by decide, by decide, rfl, rfl, rfl⟩
theorem fd_12_48 : FD 12 48 RX12 TX12 56 1 "WardWatchModel" "cPower" "[I" := ⟨inX12, rfl, rfl, by decide, by decide, rfl, rfl, rfl⟩
theorem fd_12_49 : FD 12 49 RX12 TX12 56 1 "WardWatchModel" "cHour" "[I" := ⟨inX12, rfl, rfl, by decide, by decide, rfl, rfl, rfl⟩
theorem fd_12_50 : FD 12 50 RX12 TX12 56 1 "WardWatchModel" "cState" "[I" := ⟨inX12, rfl, rfl, by decide, by decide, rfl, rfl, rfl⟩
theorem fd_12_51 : FD 12 51 RX12 TX12 56 1 "WardWatchModel" "cPlace" "[I" := ⟨inX12, rfl, rfl, by decide, by decide, rfl, rfl, rfl⟩
theorem fd_12_52 : FD 12 52 RX12 TX12 56 0 "WardWatchModel" "fledMinutes" "I" := ⟨inX12, rfl, rfl, by decide, by decide, rfl, rfl, rfl⟩
theorem fd_12_53 : FD 12 53 RX12 TX12 56 0 "WardWatchModel" "fledCourt" "I" := ⟨inX12, rfl, rfl, by decide, by decide, rfl, rfl, rfl⟩
theorem fd_12_54 : FD 12 54 RX12 TX12 56 1 "WardWatchModel" "triangle" "[J" := ⟨inX12, rfl, rfl, by decide, by decide, rfl, rfl, rfl⟩
theorem fd_12_55 : FD 12 55 RX12 TX12 56 0 "WardWatchModel" "isTriangle" "Z" := ⟨inX12, rfl, rfl, by decide, by decide, rfl, rfl, rfl⟩
theorem pd_11_8 : PD 11 8 RX11 TX11 9 (.object "WardWatch$Laws") := ⟨tyX11, tyX11_ok, nmX11, by decide +kernel, by decide⟩
theorem pd_0_3 : PD 0 3 RX0 TX0 5 (.int) := ⟨tyX0, tyX0_ok, nmX0, by decide +kernel, by decide⟩
theorem pd_0_4 : PD 0 4 RX0 TX0 5 (.int) := ⟨tyX0, tyX0_ok, nmX0, by decide +kernel, by decide⟩
theorem pd_1_1 : PD 1 1 RX1 TX1 4 (.int) := ⟨tyX1, tyX1_ok, nmX1, by decide +kernel, by decide⟩
theorem pd_1_2 : PD 1 2 RX1 TX1 4 (.int) := ⟨tyX1, tyX1_ok, nmX1, by decide +kernel, by decide⟩
theorem pd_1_3 : PD 1 3 RX1 TX1 4 (.int) := ⟨tyX1, tyX1_ok, nmX1, by decide +kernel, by decide⟩
theorem pd_2_2 : PD 2 2 RX2 TX2 6 (.int) := ⟨tyX2, tyX2_ok, nmX2, by decide +kernel, by decide⟩
theorem pd_2_3 : PD 2 3 RX2 TX2 6 (.int) := ⟨tyX2, tyX2_ok, nmX2, by decide +kernel, by decide⟩
theorem pd_2_4 : PD 2 4 RX2 TX2 6 (.int) := ⟨tyX2, tyX2_ok, nmX2, by decide +kernel, by decide⟩
theorem pd_2_5 : PD 2 5 RX2 TX2 6 (.int) := ⟨tyX2, tyX2_ok, nmX2, by decide +kernel, by decide⟩
theorem pd_3_1 : PD 3 1 RX3 TX3 8 (.int) := ⟨tyX3, tyX3_ok, nmX3, by decide +kernel, by decide⟩
theorem pd_3_2 : PD 3 2 RX3 TX3 8 (.int) := ⟨tyX3, tyX3_ok, nmX3, by decide +kernel, by decide⟩
theorem pd_3_3 : PD 3 3 RX3 TX3 8 (.int) := ⟨tyX3, tyX3_ok, nmX3, by decide +kernel, by decide⟩
theorem pd_3_4 : PD 3 4 RX3 TX3 8 (.int) := ⟨tyX3, tyX3_ok, nmX3, by decide +kernel, by decide⟩
theorem pd_3_5 : PD 3 5 RX3 TX3 8 (.int) := ⟨tyX3, tyX3_ok, nmX3, by decide +kernel, by decide⟩
theorem pd_3_6 : PD 3 6 RX3 TX3 8 (.int) := ⟨tyX3, tyX3_ok, nmX3, by decide +kernel, by decide⟩
theorem pd_3_7 : PD 3 7 RX3 TX3 8 (.int) := ⟨tyX3, tyX3_ok, nmX3, by decide +kernel, by decide⟩
theorem pd_4_0 : PD 4 0 RX4 TX4 13 (.int) := ⟨tyX4, tyX4_ok, nmX4, by decide +kernel, by decide⟩
theorem pd_4_1 : PD 4 1 RX4 TX4 13 (.int) := ⟨tyX4, tyX4_ok, nmX4, by decide +kernel, by decide⟩
theorem pd_4_2 : PD 4 2 RX4 TX4 13 (.int) := ⟨tyX4, tyX4_ok, nmX4, by decide +kernel, by decide⟩
theorem pd_4_3 : PD 4 3 RX4 TX4 13 (.int) := ⟨tyX4, tyX4_ok, nmX4, by decide +kernel, by decide⟩
theorem pd_4_4 : PD 4 4 RX4 TX4 13 (.int) := ⟨tyX4, tyX4_ok, nmX4, by decide +kernel, by decide⟩
theorem pd_4_5 : PD 4 5 RX4 TX4 13 (.int) := ⟨tyX4, tyX4_ok, nmX4, by decide +kernel, by decide⟩
theorem pd_4_6 : PD 4 6 RX4 TX4 13 (.boolean) := ⟨tyX4, tyX4_ok, nmX4, by decide +kernel, by decide⟩
theorem pd_4_7 : PD 4 7 RX4 TX4 13 (.int) := ⟨tyX4, tyX4_ok, nmX4, by decide +kernel, by decide⟩
theorem pd_4_8 : PD 4 8 RX4 TX4 13 (.int) := ⟨tyX4, tyX4_ok, nmX4, by decide +kernel, by decide⟩
theorem pd_5_1 : PD 5 1 RX5 TX5 2 (.int) := ⟨tyX5, tyX5_ok, nmX5, by decide +kernel, by decide⟩
theorem pd_6_6 : PD 6 6 RX6 TX6 12 (.int) := ⟨tyX6, tyX6_ok, nmX6, by decide +kernel, by decide⟩
theorem pd_6_7 : PD 6 7 RX6 TX6 12 (.int) := ⟨tyX6, tyX6_ok, nmX6, by decide +kernel, by decide⟩
theorem pd_6_8 : PD 6 8 RX6 TX6 12 (.int) := ⟨tyX6, tyX6_ok, nmX6, by decide +kernel, by decide⟩
theorem pd_8_1 : PD 8 1 RX8 TX8 2 (.int) := ⟨tyX8, tyX8_ok, nmX8, by decide +kernel, by decide⟩
theorem pd_9_4 : PD 9 4 RX9 TX9 5 (.boolean) := ⟨tyX9, tyX9_ok, nmX9, by decide +kernel, by decide⟩
theorem pd_10_0 : PD 10 0 RX10 TX10 9 (.object "WardWatch$Laws") := ⟨tyX10, tyX10_ok, nmX10, by decide +kernel, by decide⟩
theorem pd_10_1 : PD 10 1 RX10 TX10 9 (.int) := ⟨tyX10, tyX10_ok, nmX10, by decide +kernel, by decide⟩
theorem pd_10_2 : PD 10 2 RX10 TX10 9 (.int) := ⟨tyX10, tyX10_ok, nmX10, by decide +kernel, by decide⟩
theorem pd_10_3 : PD 10 3 RX10 TX10 9 (.int) := ⟨tyX10, tyX10_ok, nmX10, by decide +kernel, by decide⟩
theorem pd_10_4 : PD 10 4 RX10 TX10 9 (.int) := ⟨tyX10, tyX10_ok, nmX10, by decide +kernel, by decide⟩
theorem pd_10_5 : PD 10 5 RX10 TX10 9 (.int) := ⟨tyX10, tyX10_ok, nmX10, by decide +kernel, by decide⟩
theorem pd_12_1 : PD 12 1 RX12 TX12 56 (.int) := ⟨tyX12, tyX12_ok, nmX12, by decide +kernel, by decide⟩
theorem pd_12_2 : PD 12 2 RX12 TX12 56 (.int) := ⟨tyX12, tyX12_ok, nmX12, by decide +kernel, by decide⟩
theorem pd_12_3 : PD 12 3 RX12 TX12 56 (.int) := ⟨tyX12, tyX12_ok, nmX12, by decide +kernel, by decide⟩
theorem pd_12_4 : PD 12 4 RX12 TX12 56 (.int) := ⟨tyX12, tyX12_ok, nmX12, by decide +kernel, by decide⟩
theorem pd_12_5 : PD 12 5 RX12 TX12 56 (.int) := ⟨tyX12, tyX12_ok, nmX12, by decide +kernel, by decide⟩
theorem pd_12_6 : PD 12 6 RX12 TX12 56 (.int) := ⟨tyX12, tyX12_ok, nmX12, by decide +kernel, by decide⟩
theorem pd_12_7 : PD 12 7 RX12 TX12 56 (.int) := ⟨tyX12, tyX12_ok, nmX12, by decide +kernel, by decide⟩
theorem pd_12_8 : PD 12 8 RX12 TX12 56 (.int) := ⟨tyX12, tyX12_ok, nmX12, by decide +kernel, by decide⟩
theorem pd_12_9 : PD 12 9 RX12 TX12 56 (.int) := ⟨tyX12, tyX12_ok, nmX12, by decide +kernel, by decide⟩
theorem pd_12_32 : PD 12 32 RX12 TX12 56 (.int) := ⟨tyX12, tyX12_ok, nmX12, by decide +kernel, by decide⟩
theorem pd_12_46 : PD 12 46 RX12 TX12 56 (.int) := ⟨tyX12, tyX12_ok, nmX12, by decide +kernel, by decide⟩
theorem pd_12_52 : PD 12 52 RX12 TX12 56 (.int) := ⟨tyX12, tyX12_ok, nmX12, by decide +kernel, by decide⟩
theorem pd_12_53 : PD 12 53 RX12 TX12 56 (.int) := ⟨tyX12, tyX12_ok, nmX12, by decide +kernel, by decide⟩
theorem pd_12_55 : PD 12 55 RX12 TX12 56 (.boolean) := ⟨tyX12, tyX12_ok, nmX12, by decide +kernel, by decide⟩
theorem mv_J0_charAt_5068e : MV yJ0_charAt_5068e cJ0_charAt_5068e 2 (some .char) RJ0 1 := ⟨tb_596, tb_594, tb_595, tb_64, by decide +kernel⟩
theorem mv_J0_checkIndex_df160 : MS yJ0_checkIndex_df160 cJ0_checkIndex_df160 2 none 2 := ⟨tb_606, tb_605, tb_64, by decide +kernel⟩
theorem mv_J0_coder_7d493 : MV yJ0_coder_7d493 cJ0_coder_7d493 1 (some .byte) RJ0 0 := ⟨tb_590, tb_588, tb_589, tb_64, by decide +kernel⟩
theorem mv_J0_isLatin1_aae02 : MV yJ0_isLatin1_aae02 cJ0_isLatin1_aae02 1 (some .boolean) RJ0 0 := ⟨tb_600, tb_598, tb_599, tb_64, by decide +kernel⟩
theorem mv_J0_length_8abf5 : MV yJ0_length_8abf5 cJ0_length_8abf5 1 (some .int) RJ0 0 := ⟨tb_586, tb_584, tb_585, tb_64, by decide +kernel⟩
theorem mv_J1_charAt_3b067 : MS yJ1_charAt_3b067 cJ1_charAt_3b067 2 (some .char) 2 := ⟨tb_603, tb_602, tb_65, by decide +kernel⟩
theorem mv_J3_checkIndex_8e157 : MS yJ3_checkIndex_8e157 cJ3_checkIndex_8e157 3 (some .int) 3 := ⟨tb_611, tb_610, tb_66, by decide +kernel⟩
theorem mv_J6_bitCount_0f7a4 : MS yJ6_bitCount_0f7a4 cJ6_bitCount_0f7a4 1 (some .int) 1 := ⟨tb_471, tb_470, tb_54, by decide +kernel⟩
theorem mv_J7_fill_53178 : MS yJ7_fill_53178 cJ7_fill_53178 4 none 2 := ⟨tb_100, tb_99, tb_52, by decide +kernel⟩
theorem mv_X0_tell : MV yX0_tell cX0_tell 2 (some .int) RX0 1 := ⟨tb_902, tb_900, tb_901, tb_69, by decide +kernel⟩
theorem mv_X10_appoint : MV yX10_appoint cX10_appoint 4 none RX10 3 := ⟨tb_815, tb_813, tb_814, tb_60, by decide +kernel⟩
theorem mv_X10_hasPlace : MV yX10_hasPlace cX10_hasPlace 1 (some .boolean) RX10 0 := ⟨tb_886, tb_884, tb_885, tb_60, by decide +kernel⟩
theorem mv_X10_nextYear : MV yX10_nextYear cX10_nextYear 3 (some .int) RX10 1 := ⟨tb_781, tb_779, tb_780, tb_60, by decide +kernel⟩
theorem mv_X10_openYear : MV yX10_openYear cX10_openYear 2 none RX10 1 := ⟨tb_790, tb_788, tb_789, tb_60, by decide +kernel⟩
theorem mv_X10_takeFine : MV yX10_takeFine cX10_takeFine 2 none RX10 1 := ⟨tb_819, tb_817, tb_818, tb_60, by decide +kernel⟩
theorem mv_X10_tellYear : MV yX10_tellYear cX10_tellYear 3 (some .int) RX10 2 := ⟨tb_827, tb_825, tb_826, tb_60, by decide +kernel⟩
theorem mv_X11_enactDraft : MV yX11_enactDraft cX11_enactDraft 3 none RX11 1 := ⟨tb_688, tb_687, tb_23, tb_49, by decide +kernel⟩
theorem mv_X11_greatestCommonPart : MS yX11_greatestCommonPart cX11_greatestCommonPart 11 (some .long) 2 := ⟨tb_956, tb_955, tb_49, by decide +kernel⟩
theorem mv_X11_isCourt : MS yX11_isCourt cX11_isCourt 1 (some .boolean) 1 := ⟨tb_423, tb_422, tb_49, by decide +kernel⟩
theorem mv_X11_isFrom : MS yX11_isFrom cX11_isFrom 3 (some .boolean) 3 := ⟨tb_426, tb_425, tb_49, by decide +kernel⟩
theorem mv_X11_isInTable : MS yX11_isInTable cX11_isInTable 1 (some .boolean) 1 := ⟨tb_947, tb_946, tb_49, by decide +kernel⟩
theorem mv_X11_isTaking : MS yX11_isTaking cX11_isTaking 3 (some .boolean) 3 := ⟨tb_715, tb_714, tb_49, by decide +kernel⟩
theorem mv_X11_isWard : MS yX11_isWard cX11_isWard 1 (some .boolean) 1 := ⟨tb_429, tb_428, tb_49, by decide +kernel⟩
theorem mv_X11_waysToChoose : MS yX11_waysToChoose cX11_waysToChoose 6 (some .long) 2 := ⟨tb_951, tb_950, tb_49, by decide +kernel⟩
theorem mv_X12_chosen : MV yX12_chosen cX12_chosen 5 (some .long) RX12 2 := ⟨tb_1356, tb_1355, tb_47, tb_61, by decide +kernel⟩
theorem mv_X12_farOf : MV yX12_farOf cX12_farOf 3 (some .int) RX12 2 := ⟨tb_1198, tb_1197, tb_29, tb_61, by decide +kernel⟩
theorem mv_X12_hasCry : MV yX12_hasCry cX12_hasCry 2 (some .boolean) RX12 0 := ⟨tb_1259, tb_1258, tb_39, tb_61, by decide +kernel⟩
theorem mv_X12_hasPlace : MV yX12_hasPlace cX12_hasPlace 2 (some .boolean) RX12 1 := ⟨tb_1324, tb_1323, tb_45, tb_61, by decide +kernel⟩
theorem mv_X12_hour : MV yX12_hour cX12_hour 2 (some .boolean) RX12 1 := ⟨tb_1255, tb_1254, tb_38, tb_61, by decide +kernel⟩
theorem mv_X12_in : MS yX12_in cX12_in 3 (some .boolean) 3 := ⟨tb_1172, tb_1171, tb_61, by decide +kernel⟩
theorem mv_X12_isCourt : MS yX12_isCourt cX12_isCourt 1 (some .boolean) 1 := ⟨tb_1169, tb_1168, tb_61, by decide +kernel⟩
theorem mv_X12_isDigit : MS yX12_isDigit cX12_isDigit 1 (some .boolean) 1 := ⟨tb_1235, tb_1234, tb_61, by decide +kernel⟩
theorem mv_X12_isGiven : MV yX12_isGiven cX12_isGiven 8 (some .boolean) RX12 4 := ⟨tb_1279, tb_1278, tb_41, tb_61, by decide +kernel⟩
theorem mv_X12_isHouse : MV yX12_isHouse cX12_isHouse 2 (some .boolean) RX12 1 := ⟨tb_1291, tb_1290, tb_42, tb_61, by decide +kernel⟩
theorem mv_X12_isSmall : MS yX12_isSmall cX12_isSmall 1 (some .boolean) 1 := ⟨tb_1225, tb_1224, tb_61, by decide +kernel⟩
theorem mv_X12_isSome : MS yX12_isSome cX12_isSome 1 (some .boolean) 1 := ⟨tb_1351, tb_1350, tb_61, by decide +kernel⟩
theorem mv_X12_isWard : MS yX12_isWard cX12_isWard 1 (some .boolean) 1 := ⟨tb_1175, tb_1174, tb_61, by decide +kernel⟩
theorem mv_X12_keyAt : MV yX12_keyAt cX12_keyAt 8 (some .int) RX12 2 := ⟨tb_1229, tb_1228, tb_33, tb_61, by decide +kernel⟩
theorem mv_X12_least : MS yX12_least cX12_least 2 (some .int) 1 := ⟨tb_1194, tb_1193, tb_61, by decide +kernel⟩
theorem mv_X12_lying : MV yX12_lying cX12_lying 4 (some .int) RX12 1 := ⟨tb_1328, tb_1327, tb_46, tb_61, by decide +kernel⟩
theorem mv_X12_makeFar : MV yX12_makeFar cX12_makeFar 5 none RX12 0 := ⟨tb_984, tb_983, tb_27, tb_61, by decide +kernel⟩
theorem mv_X12_number : MV yX12_number cX12_number 4 (some .boolean) RX12 3 := ⟨tb_1263, tb_1262, tb_40, tb_61, by decide +kernel⟩
theorem mv_X12_placeFor : MV yX12_placeFor cX12_placeFor 6 (some .int) RX12 2 := ⟨tb_1320, tb_1319, tb_44, tb_61, by decide +kernel⟩
theorem mv_X12_plain : MS yX12_plain cX12_plain 1 (some .int) 1 := ⟨tb_980, tb_979, tb_61, by decide +kernel⟩
theorem mv_X12_readLine : MV yX12_readLine cX12_readLine 3 (some .boolean) RX12 1 := ⟨tb_1239, tb_1238, tb_34, tb_61, by decide +kernel⟩
theorem mv_X12_readPower : MV yX12_readPower cX12_readPower 2 (some .boolean) RX12 0 := ⟨tb_1247, tb_1246, tb_36, tb_61, by decide +kernel⟩
theorem mv_X12_scan : MV yX12_scan cX12_scan 4 none RX12 0 := ⟨tb_1218, tb_1217, tb_31, tb_61, by decide +kernel⟩
theorem mv_X12_see : MV yX12_see cX12_see 2 (some .int) RX12 1 := ⟨tb_1222, tb_1221, tb_32, tb_61, by decide +kernel⟩
theorem mv_X12_turns : MV yX12_turns cX12_turns 7 none RX12 4 := ⟨tb_1304, tb_1303, tb_43, tb_61, by decide +kernel⟩
theorem mv_X12_word : MV yX12_word cX12_word 2 (some .boolean) RX12 1 := ⟨tb_1251, tb_1250, tb_37, tb_61, by decide +kernel⟩
theorem mv_X12_wrong : MV yX12_wrong cX12_wrong 2 (some .boolean) RX12 1 := ⟨tb_1243, tb_1242, tb_35, tb_61, by decide +kernel⟩
theorem mv_X1_read : MV yX1_read cX1_read 4 (some .boolean) RX1 2 := ⟨tb_918, tb_916, tb_917, tb_58, by decide +kernel⟩
theorem mv_X1_run : MV yX1_run cX1_run 10 (some .int) RX1 3 := ⟨tb_927, tb_925, tb_926, tb_58, by decide +kernel⟩
theorem mv_X1_tell : MV yX1_tell cX1_tell 2 (some .int) RX1 1 := ⟨tb_940, tb_938, tb_939, tb_58, by decide +kernel⟩
theorem mv_X2_canHire : MV yX2_canHire cX2_canHire 2 (some .boolean) RX2 1 := ⟨tb_811, tb_809, tb_810, tb_68, by decide +kernel⟩
theorem mv_X2_canPay : MV yX2_canPay cX2_canPay 2 (some .boolean) RX2 1 := ⟨tb_803, tb_801, tb_802, tb_68, by decide +kernel⟩
theorem mv_X2_isDue : MV yX2_isDue cX2_isDue 4 (some .boolean) RX2 2 := ⟨tb_794, tb_792, tb_793, tb_68, by decide +kernel⟩
theorem mv_X2_noteYear : MV yX2_noteYear cX2_noteYear 2 none RX2 1 := ⟨tb_799, tb_797, tb_798, tb_68, by decide +kernel⟩
theorem mv_X2_tell : MV yX2_tell cX2_tell 2 (some .int) RX2 1 := ⟨tb_835, tb_833, tb_834, tb_68, by decide +kernel⟩
theorem mv_X3_advance : MV yX3_advance cX3_advance 2 none RX3 0 := ⟨tb_559, tb_558, tb_12, tb_55, by decide +kernel⟩
theorem mv_X3_beginOnly : MV yX3_beginOnly cX3_beginOnly 2 none RX3 1 := ⟨tb_634, tb_633, tb_15, tb_55, by decide +kernel⟩
theorem mv_X3_blame : MV yX3_blame cX3_blame 2 none RX3 1 := ⟨tb_638, tb_637, tb_16, tb_55, by decide +kernel⟩
theorem mv_X3_faultKind : MV yX3_faultKind cX3_faultKind 1 (some .int) RX3 0 := ⟨tb_696, tb_694, tb_695, tb_55, by decide +kernel⟩
theorem mv_X3_faultPlace : MV yX3_faultPlace cX3_faultPlace 1 (some .int) RX3 0 := ⟨tb_700, tb_698, tb_699, tb_55, by decide +kernel⟩
theorem mv_X3_isBlank : MS yX3_isBlank cX3_isBlank 1 (some .boolean) 1 := ⟨tb_567, tb_566, tb_55, by decide +kernel⟩
theorem mv_X3_isDigit : MS yX3_isDigit cX3_isDigit 1 (some .boolean) 1 := ⟨tb_573, tb_572, tb_55, by decide +kernel⟩
theorem mv_X3_isLetter : MS yX3_isLetter cX3_isLetter 1 (some .boolean) 1 := ⟨tb_570, tb_569, tb_55, by decide +kernel⟩
theorem mv_X3_isWord : MV yX3_isWord cX3_isWord 3 (some .boolean) RX3 1 := ⟨tb_582, tb_581, tb_14, tb_55, by decide +kernel⟩
theorem mv_X3_read : MV yX3_read cX3_read 3 (some .int) RX3 1 := ⟨tb_554, tb_552, tb_553, tb_55, by decide +kernel⟩
theorem mv_X3_readLine : MV yX3_readLine cX3_readLine 2 none RX3 1 := ⟨tb_577, tb_576, tb_13, tb_55, by decide +kernel⟩
theorem mv_X3_readPower : MV yX3_readPower cX3_readPower 5 none RX3 1 := ⟨tb_651, tb_650, tb_18, tb_55, by decide +kernel⟩
theorem mv_X3_takeCry : MV yX3_takeCry cX3_takeCry 1 (some .boolean) RX3 0 := ⟨tb_672, tb_671, tb_21, tb_55, by decide +kernel⟩
theorem mv_X3_takeNumber : MV yX3_takeNumber cX3_takeNumber 4 (some .int) RX3 2 := ⟨tb_642, tb_641, tb_17, tb_55, by decide +kernel⟩
theorem mv_X3_takePower : MV yX3_takePower cX3_takePower 2 (some .int) RX3 0 := ⟨tb_659, tb_658, tb_19, tb_55, by decide +kernel⟩
theorem mv_X3_takeSemicolon : MV yX3_takeSemicolon cX3_takeSemicolon 1 none RX3 0 := ⟨tb_684, tb_683, tb_22, tb_55, by decide +kernel⟩
theorem mv_X3_takeWord : MV yX3_takeWord cX3_takeWord 2 none RX3 1 := ⟨tb_667, tb_666, tb_20, tb_55, by decide +kernel⟩
theorem mv_X4_addPower : MV yX4_addPower cX4_addPower 5 none RX4 4 := ⟨tb_677, tb_675, tb_676, tb_59, by decide +kernel⟩
theorem mv_X4_forget : MV yX4_forget cX4_forget 1 none RX4 0 := ⟨tb_260, tb_258, tb_259, tb_59, by decide +kernel⟩
theorem mv_X4_gives : MV yX4_gives cX4_gives 5 (some .boolean) RX4 3 := ⟨tb_719, tb_717, tb_718, tb_59, by decide +kernel⟩
theorem mv_X4_hasHour : MV yX4_hasHour cX4_hasHour 3 (some .boolean) RX4 2 := ⟨tb_723, tb_722, tb_24, tb_59, by decide +kernel⟩
theorem mv_X4_hasRoomForPower : MV yX4_hasRoomForPower cX4_hasRoomForPower 1 (some .boolean) RX4 0 := ⟨tb_655, tb_653, tb_654, tb_59, by decide +kernel⟩
theorem mv_X4_letFollow : MV yX4_letFollow cX4_letFollow 2 (some .boolean) RX4 1 := ⟨tb_890, tb_888, tb_889, tb_59, by decide +kernel⟩
theorem mv_X4_tell : MV yX4_tell cX4_tell 2 (some .int) RX4 1 := ⟨tb_708, tb_706, tb_707, tb_59, by decide +kernel⟩
theorem mv_X5_bringAll : MV yX5_bringAll cX5_bringAll 3 (some .int) RX5 0 := ⟨tb_910, tb_908, tb_909, tb_57, by decide +kernel⟩
theorem mv_X5_find : MV yX5_find cX5_find 2 (some (.object "WardWatch$Charge")) RX5 1 := ⟨tb_898, tb_896, tb_897, tb_57, by decide +kernel⟩
theorem mv_X5_firstWithPlace : MS yX5_firstWithPlace cX5_firstWithPlace 4 (some .int) 2 := ⟨tb_882, tb_881, tb_57, by decide +kernel⟩
theorem mv_X5_lockUp : MV yX5_lockUp cX5_lockUp 5 none RX5 3 := ⟨tb_879, tb_878, tb_26, tb_57, by decide +kernel⟩
theorem mv_X5_size : MV yX5_size cX5_size 1 (some .int) RX5 0 := ⟨tb_971, tb_969, tb_970, tb_57, by decide +kernel⟩
theorem mv_X6_bestPlan : MV yX6_bestPlan cX6_bestPlan 10 (some .long) RX6 1 := ⟨tb_519, tb_518, tb_9, tb_53, by decide +kernel⟩
theorem mv_X6_joinParts : MV yX6_joinParts cX6_joinParts 2 none RX6 0 := ⟨tb_515, tb_514, tb_8, tb_53, by decide +kernel⟩
theorem mv_X6_keepPartOf : MV yX6_keepPartOf cX6_keepPartOf 7 (some .int) RX6 2 := ⟨tb_533, tb_532, tb_11, tb_53, by decide +kernel⟩
theorem mv_X6_keepPlan : MV yX6_keepPlan cX6_keepPlan 4 none RX6 1 := ⟨tb_528, tb_527, tb_10, tb_53, by decide +kernel⟩
theorem mv_X6_leastWithin : MV yX6_leastWithin cX6_leastWithin 5 (some .int) RX6 2 := ⟨tb_507, tb_506, tb_7, tb_53, by decide +kernel⟩
theorem mv_X6_listCourts : MV yX6_listCourts cX6_listCourts 3 none RX6 1 := ⟨tb_482, tb_481, tb_2, tb_53, by decide +kernel⟩
theorem mv_X6_measureSteps : MV yX6_measureSteps cX6_measureSteps 5 none RX6 1 := ⟨tb_486, tb_485, tb_3, tb_53, by decide +kernel⟩
theorem mv_X6_measureTours : MV yX6_measureTours cX6_measureTours 7 none RX6 2 := ⟨tb_492, tb_491, tb_4, tb_53, by decide +kernel⟩
theorem mv_X6_plan : MV yX6_plan cX6_plan 4 (some .int) RX6 2 := ⟨tb_478, tb_476, tb_477, tb_53, by decide +kernel⟩
theorem mv_X6_rowShift : MS yX6_rowShift cX6_rowShift 1 (some .int) 1 := ⟨tb_130, tb_129, tb_53, by decide +kernel⟩
theorem mv_X6_shortestPath : MV yX6_shortestPath cX6_shortestPath 9 (some .int) RX6 4 := ⟨tb_500, tb_499, tb_6, tb_53, by decide +kernel⟩
theorem mv_X6_shortestTour : MV yX6_shortestTour cX6_shortestTour 7 (some .int) RX6 3 := ⟨tb_496, tb_495, tb_5, tb_53, by decide +kernel⟩
theorem mv_X6_tell : MV yX6_tell cX6_tell 2 (some .int) RX6 1 := ⟨tb_541, tb_539, tb_540, tb_53, by decide +kernel⟩
theorem mv_X7_appoint : MV yX7_appoint cX7_appoint 5 none RX7 3 := ⟨tb_807, tb_806, tb_25, tb_56, by decide +kernel⟩
theorem mv_X7_fillYear : MV yX7_fillYear cX7_fillYear 8 (some .int) RX7 3 := ⟨tb_786, tb_784, tb_785, tb_56, by decide +kernel⟩
theorem mv_X7_find : MV yX7_find cX7_find 2 (some (.object "WardWatch$House")) RX7 1 := ⟨tb_767, tb_765, tb_766, tb_56, by decide +kernel⟩
theorem mv_X7_size : MV yX7_size cX7_size 1 (some .int) RX7 0 := ⟨tb_967, tb_965, tb_966, tb_56, by decide +kernel⟩
theorem mv_X8_append : MV yX8_append cX8_append 3 none RX8 1 := ⟨tb_404, tb_402, tb_403, tb_50, by decide +kernel⟩
theorem mv_X8_at : MV yX8_at cX8_at 2 (some .int) RX8 1 := ⟨tb_564, tb_562, tb_563, tb_50, by decide +kernel⟩
theorem mv_X8_cut : MV yX8_cut cX8_cut 2 none RX8 1 := ⟨tb_416, tb_414, tb_415, tb_50, by decide +kernel⟩
theorem mv_X8_hasRoomFor : MV yX8_hasRoomFor cX8_hasRoomFor 2 (some .boolean) RX8 1 := ⟨tb_400, tb_398, tb_399, tb_50, by decide +kernel⟩
theorem mv_X8_length : MV yX8_length cX8_length 1 (some .int) RX8 0 := ⟨tb_408, tb_406, tb_407, tb_50, by decide +kernel⟩
theorem mv_X9_leastMinutes : MV yX9_leastMinutes cX9_leastMinutes 3 (some .int) RX9 2 := ⟨tb_453, tb_451, tb_452, tb_51, by decide +kernel⟩
theorem mv_X9_measure : MV yX9_measure cX9_measure 3 none RX9 0 := ⟨tb_457, tb_456, tb_0, tb_51, by decide +kernel⟩
theorem mv_X9_minutesOfWay : MV yX9_minutesOfWay cX9_minutesOfWay 3 (some .int) RX9 2 := ⟨tb_441, tb_439, tb_440, tb_51, by decide +kernel⟩
theorem mv_X9_place : MV yX9_place cX9_place 4 none RX9 3 := ⟨tb_433, tb_431, tb_432, tb_51, by decide +kernel⟩
theorem mv_X9_setWay : MV yX9_setWay cX9_setWay 4 none RX9 3 := ⟨tb_445, tb_443, tb_444, tb_51, by decide +kernel⟩
theorem mv_X9_shortenFrom : MV yX9_shortenFrom cX9_shortenFrom 7 none RX9 2 := ⟨tb_464, tb_463, tb_1, tb_51, by decide +kernel⟩
theorem mv_X9_wardAt : MV yX9_wardAt cX9_wardAt 2 (some .int) RX9 1 := ⟨tb_931, tb_929, tb_930, tb_51, by decide +kernel⟩
theorem mv_X9_withinAt : MV yX9_withinAt cX9_withinAt 2 (some .int) RX9 1 := ⟨tb_511, tb_509, tb_510, tb_51, by decide +kernel⟩

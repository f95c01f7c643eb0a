theorem tb_0 : Cond.selects RX9 yX9_measure yX9_measure ∈ gw_tbl := mg (List.mem_of_getElem? (i := 0) (by decide +kernel)) rfl
theorem tb_1 : Cond.selects RX9 yX9_shortenFrom yX9_shortenFrom ∈ gw_tbl := mg (List.mem_of_getElem? (i := 1) (by decide +kernel)) rfl
theorem tb_49 : Cond.initialized RX11 ∈ gw_tbl := mg (List.mem_of_getElem? (i := 49) (by decide +kernel)) rfl
theorem tb_51 : Cond.initialized RX9 ∈ gw_tbl := mg (List.mem_of_getElem? (i := 51) (by decide +kernel)) rfl
theorem tb_61 : Cond.initialized RX12 ∈ gw_tbl := mg (List.mem_of_getElem? (i := 61) (by decide +kernel)) rfl
theorem tb_62 : Cond.initialized RJ10 ∈ gw_tbl := mg (List.mem_of_getElem? (i := 62) (by decide +kernel)) rfl
theorem tb_63 : Cond.initialized RJ9 ∈ gw_tbl := mg (List.mem_of_getElem? (i := 63) (by decide +kernel)) rfl
theorem tb_64 : Cond.initialized RJ0 ∈ gw_tbl := mg (List.mem_of_getElem? (i := 64) (by decide +kernel)) rfl
theorem tb_65 : Cond.initialized RJ1 ∈ gw_tbl := mg (List.mem_of_getElem? (i := 65) (by decide +kernel)) rfl
theorem tb_66 : Cond.initialized RJ3 ∈ gw_tbl := mg (List.mem_of_getElem? (i := 66) (by decide +kernel)) rfl
theorem tb_84 : Cond.fieldLink RX8 9 "WardWatch$Tape" "bytes" "[B" ∈ gw_tbl := mg (List.mem_of_getElem? (i := 84) (by decide +kernel)) rfl
theorem tb_85 : Cond.fieldLink RX8 13 "WardWatch$Tape" "length" "I" ∈ gw_tbl := mg (List.mem_of_getElem? (i := 85) (by decide +kernel)) rfl
theorem tb_101 : Cond.fieldLink RX9 9 "WardWatch$Town" "wardOf" "[I" ∈ gw_tbl := mg (List.mem_of_getElem? (i := 101) (by decide +kernel)) rfl
theorem tb_102 : Cond.fieldLink RX9 15 "WardWatch$Town" "withinOf" "[I" ∈ gw_tbl := mg (List.mem_of_getElem? (i := 102) (by decide +kernel)) rfl
theorem tb_103 : Cond.fieldLink RX9 18 "WardWatch$Town" "ways" "[I" ∈ gw_tbl := mg (List.mem_of_getElem? (i := 103) (by decide +kernel)) rfl
theorem tb_104 : Cond.fieldLink RX9 21 "WardWatch$Town" "fars" "[I" ∈ gw_tbl := mg (List.mem_of_getElem? (i := 104) (by decide +kernel)) rfl
theorem tb_105 : Cond.fieldLink RX9 24 "WardWatch$Town" "stale" "Z" ∈ gw_tbl := mg (List.mem_of_getElem? (i := 105) (by decide +kernel)) rfl
theorem tb_127 : Cond.constant RJ6 264 (65536) ∈ gw_tbl := mg (List.mem_of_getElem? (i := 127) (by decide +kernel)) rfl
theorem tb_424 : Cond.methodLink RX11 95 yX11_isFrom ∈ gw_tbl := mg (List.mem_of_getElem? (i := 424) (by decide +kernel)) rfl
theorem tb_425 : Cond.static yX11_isFrom ∈ gw_tbl := mg (List.mem_of_getElem? (i := 425) (by decide +kernel)) rfl
theorem tb_426 : Cond.code yX11_isFrom cX11_isFrom 3 (some .boolean) ∈ gw_tbl := mg (List.mem_of_getElem? (i := 426) (by decide +kernel)) rfl
theorem tb_427 : Cond.methodLink RX11 92 yX11_isWard ∈ gw_tbl := mg (List.mem_of_getElem? (i := 427) (by decide +kernel)) rfl
theorem tb_428 : Cond.static yX11_isWard ∈ gw_tbl := mg (List.mem_of_getElem? (i := 428) (by decide +kernel)) rfl
theorem tb_429 : Cond.code yX11_isWard cX11_isWard 1 (some .boolean) ∈ gw_tbl := mg (List.mem_of_getElem? (i := 429) (by decide +kernel)) rfl
theorem tb_454 : Cond.methodLink RX9 34 yX9_measure ∈ gw_tbl := mg (List.mem_of_getElem? (i := 454) (by decide +kernel)) rfl
theorem tb_456 : Cond.instanceMethod yX9_measure ∈ gw_tbl := mg (List.mem_of_getElem? (i := 456) (by decide +kernel)) rfl
theorem tb_457 : Cond.code yX9_measure cX9_measure 3 none ∈ gw_tbl := mg (List.mem_of_getElem? (i := 457) (by decide +kernel)) rfl
theorem tb_458 : Cond.methodLink RX9 37 arraycopyName ∈ gw_tbl := mg (List.mem_of_getElem? (i := 458) (by decide +kernel)) rfl
theorem tb_459 : Cond.static arraycopyName ∈ gw_tbl := mg (List.mem_of_getElem? (i := 459) (by decide +kernel)) rfl
theorem tb_460 : Cond.native arraycopyName ∈ gw_tbl := mg (List.mem_of_getElem? (i := 460) (by decide +kernel)) rfl
theorem tb_461 : Cond.methodLink RX9 43 yX9_shortenFrom ∈ gw_tbl := mg (List.mem_of_getElem? (i := 461) (by decide +kernel)) rfl
theorem tb_463 : Cond.instanceMethod yX9_shortenFrom ∈ gw_tbl := mg (List.mem_of_getElem? (i := 463) (by decide +kernel)) rfl
theorem tb_464 : Cond.code yX9_shortenFrom cX9_shortenFrom 7 none ∈ gw_tbl := mg (List.mem_of_getElem? (i := 464) (by decide +kernel)) rfl
theorem tb_472 : Cond.constant RJ6 265 (1431655765) ∈ gw_tbl := mg (List.mem_of_getElem? (i := 472) (by decide +kernel)) rfl
theorem tb_473 : Cond.constant RJ6 266 (858993459) ∈ gw_tbl := mg (List.mem_of_getElem? (i := 473) (by decide +kernel)) rfl
theorem tb_474 : Cond.constant RJ6 267 (252645135) ∈ gw_tbl := mg (List.mem_of_getElem? (i := 474) (by decide +kernel)) rfl
theorem tb_502 : Cond.static Lib.Math.min.name ∈ gw_tbl := mg (List.mem_of_getElem? (i := 502) (by decide +kernel)) rfl
theorem tb_503 : Cond.code Lib.Math.min.name Lib.Math.min.code 2 (some .int) ∈ gw_tbl := mg (List.mem_of_getElem? (i := 503) (by decide +kernel)) rfl
theorem tb_587 : Cond.methodLink RJ0 335 yJ0_coder_7d493 ∈ gw_tbl := mg (List.mem_of_getElem? (i := 587) (by decide +kernel)) rfl
theorem tb_588 : Cond.instanceMethod yJ0_coder_7d493 ∈ gw_tbl := mg (List.mem_of_getElem? (i := 588) (by decide +kernel)) rfl
theorem tb_589 : Cond.selects RJ0 yJ0_coder_7d493 yJ0_coder_7d493 ∈ gw_tbl := mg (List.mem_of_getElem? (i := 589) (by decide +kernel)) rfl
theorem tb_590 : Cond.code yJ0_coder_7d493 cJ0_coder_7d493 1 (some .byte) ∈ gw_tbl := mg (List.mem_of_getElem? (i := 590) (by decide +kernel)) rfl
theorem tb_591 : Cond.fieldLink RJ0 38 "java/lang/String" "COMPACT_STRINGS" "Z" ∈ gw_tbl := mg (List.mem_of_getElem? (i := 591) (by decide +kernel)) rfl
theorem tb_597 : Cond.methodLink RJ0 492 yJ0_isLatin1_aae02 ∈ gw_tbl := mg (List.mem_of_getElem? (i := 597) (by decide +kernel)) rfl
theorem tb_598 : Cond.instanceMethod yJ0_isLatin1_aae02 ∈ gw_tbl := mg (List.mem_of_getElem? (i := 598) (by decide +kernel)) rfl
theorem tb_599 : Cond.selects RJ0 yJ0_isLatin1_aae02 yJ0_isLatin1_aae02 ∈ gw_tbl := mg (List.mem_of_getElem? (i := 599) (by decide +kernel)) rfl
theorem tb_600 : Cond.code yJ0_isLatin1_aae02 cJ0_isLatin1_aae02 1 (some .boolean) ∈ gw_tbl := mg (List.mem_of_getElem? (i := 600) (by decide +kernel)) rfl
theorem tb_601 : Cond.methodLink RJ0 495 yJ1_charAt_3b067 ∈ gw_tbl := mg (List.mem_of_getElem? (i := 601) (by decide +kernel)) rfl
theorem tb_602 : Cond.static yJ1_charAt_3b067 ∈ gw_tbl := mg (List.mem_of_getElem? (i := 602) (by decide +kernel)) rfl
theorem tb_603 : Cond.code yJ1_charAt_3b067 cJ1_charAt_3b067 2 (some .char) ∈ gw_tbl := mg (List.mem_of_getElem? (i := 603) (by decide +kernel)) rfl
theorem tb_604 : Cond.methodLink RJ1 9 yJ0_checkIndex_df160 ∈ gw_tbl := mg (List.mem_of_getElem? (i := 604) (by decide +kernel)) rfl
theorem tb_605 : Cond.static yJ0_checkIndex_df160 ∈ gw_tbl := mg (List.mem_of_getElem? (i := 605) (by decide +kernel)) rfl
theorem tb_606 : Cond.code yJ0_checkIndex_df160 cJ0_checkIndex_df160 2 none ∈ gw_tbl := mg (List.mem_of_getElem? (i := 606) (by decide +kernel)) rfl
theorem tb_607 : Cond.fieldLink RJ0 1053 "jdk/internal/util/Preconditions" "SIOOBE_FORMATTER" "Ljava/util/function/BiFunction;" ∈ gw_tbl := mg (List.mem_of_getElem? (i := 607) (by decide +kernel)) rfl
theorem tb_609 : Cond.methodLink RJ0 1059 yJ3_checkIndex_8e157 ∈ gw_tbl := mg (List.mem_of_getElem? (i := 609) (by decide +kernel)) rfl
theorem tb_610 : Cond.static yJ3_checkIndex_8e157 ∈ gw_tbl := mg (List.mem_of_getElem? (i := 610) (by decide +kernel)) rfl
theorem tb_611 : Cond.code yJ3_checkIndex_8e157 cJ3_checkIndex_8e157 3 (some .int) ∈ gw_tbl := mg (List.mem_of_getElem? (i := 611) (by decide +kernel)) rfl
theorem tb_952 : Cond.methodLink RX11 235 Lib.Math.min.name ∈ gw_tbl := mg (List.mem_of_getElem? (i := 952) (by decide +kernel)) rfl
theorem tb_957 : Cond.methodLink RX11 240 Lib.MathLoose.max_long.x ∈ gw_tbl := mg (List.mem_of_getElem? (i := 957) (by decide +kernel)) rfl
theorem tb_958 : Cond.static Lib.MathLoose.max_long.x ∈ gw_tbl := mg (List.mem_of_getElem? (i := 958) (by decide +kernel)) rfl
theorem tb_959 : Cond.code Lib.MathLoose.max_long.x Lib.MathLoose.max_long.code 4 (some .long) ∈ gw_tbl := mg (List.mem_of_getElem? (i := 959) (by decide +kernel)) rfl
theorem tb_1170 : Cond.methodLink RX12 188 yX12_in ∈ gw_tbl := mg (List.mem_of_getElem? (i := 1170) (by decide +kernel)) rfl
theorem tb_1171 : Cond.static yX12_in ∈ gw_tbl := mg (List.mem_of_getElem? (i := 1171) (by decide +kernel)) rfl
theorem tb_1172 : Cond.code yX12_in cX12_in 3 (some .boolean) ∈ gw_tbl := mg (List.mem_of_getElem? (i := 1172) (by decide +kernel)) rfl
theorem tb_1362 : Cond.fieldLink RJ0 9 "java/lang/String" "value" "[B" ∈ gw_tbl := mg (List.mem_of_getElem? (i := 1362) (by decide +kernel)) rfl
theorem tb_1363 : Cond.fieldLink RJ0 15 "java/lang/String" "coder" "B" ∈ gw_tbl := mg (List.mem_of_getElem? (i := 1363) (by decide +kernel)) rfl
theorem inX8 : ∀ w ∈ u_ws RX8 TX8 2, w ∈ gw_tbl := fun w hw => mg ((by decide +kernel : ∀ w ∈ u_ws RX8 TX8 2, w ∈ lw_tbl) w hw) ((by decide +kernel : ∀ w ∈ u_ws RX8 TX8 2, goodWord w = true) w hw)
theorem inX9 : ∀ w ∈ u_ws RX9 TX9 5, w ∈ gw_tbl := fun w hw => mg ((by decide +kernel : ∀ w ∈ u_ws RX9 TX9 5, w ∈ lw_tbl) w hw) ((by decide +kernel : ∀ w ∈ u_ws RX9 TX9 5, goodWord w = true) w hw)
theorem fd_8_0 : FD 8 0 RX8 TX8 2 1 "WardWatch$Tape" "bytes" "[B" := ⟨inX8, rfl, rfl, by decide, by decide, rfl, rfl, rfl⟩
theorem fd_8_1 : FD 8 1 RX8 TX8 2 0 "WardWatch$Tape" "length" "I" := ⟨inX8, rfl, rfl, by decide, by decide, rfl, rfl, rfl⟩
theorem fd_9_0 : FD 9 0 RX9 TX9 5 1 "WardWatch$Town" "wardOf" "[I" := ⟨inX9, rfl, rfl, by decide, by decide, rfl, rfl, rfl⟩
theorem fd_9_1 : FD 9 1 RX9 TX9 5 1 "WardWatch$Town" "withinOf" "[I" := ⟨inX9, rfl, rfl, by decide, by decide, rfl, rfl, rfl⟩
theorem fd_9_2 : FD 9 2 RX9 TX9 5 1 "WardWatch$Town" "ways" "[I" := ⟨inX9, rfl, rfl, by decide, by decide, rfl, rfl, rfl⟩
theorem fd_9_3 : FD 9 3 RX9 TX9 5 1 "WardWatch$Town" "fars" "[I" := ⟨inX9, rfl, rfl, by decide, by decide, rfl, rfl, rfl⟩
theorem fd_9_4 : FD 9 4 RX9 TX9 5 0 "WardWatch$Town" "stale" "Z" := ⟨inX9, rfl, rfl, by decide, by decide, rfl, rfl, rfl⟩
theorem pd_8_1 : PD 8 1 RX8 TX8 2 (.int) := ⟨tyX8, tyX8_ok, nmX8, by decide +kernel, by decide⟩
theorem pd_9_4 : PD 9 4 RX9 TX9 5 (.boolean) := ⟨tyX9, tyX9_ok, nmX9, by decide +kernel, by decide⟩
theorem mv_J0_checkIndex_df160 : MS yJ0_checkIndex_df160 cJ0_checkIndex_df160 2 none 2 := ⟨tb_606, tb_605, tb_64, by decide +kernel⟩
theorem mv_J0_coder_7d493 : MV yJ0_coder_7d493 cJ0_coder_7d493 1 (some .byte) RJ0 0 := ⟨tb_590, tb_588, tb_589, tb_64, by decide +kernel⟩
theorem mv_J0_isLatin1_aae02 : MV yJ0_isLatin1_aae02 cJ0_isLatin1_aae02 1 (some .boolean) RJ0 0 := ⟨tb_600, tb_598, tb_599, tb_64, by decide +kernel⟩
theorem mv_J1_charAt_3b067 : MS yJ1_charAt_3b067 cJ1_charAt_3b067 2 (some .char) 2 := ⟨tb_603, tb_602, tb_65, by decide +kernel⟩
theorem mv_J3_checkIndex_8e157 : MS yJ3_checkIndex_8e157 cJ3_checkIndex_8e157 3 (some .int) 3 := ⟨tb_611, tb_610, tb_66, by decide +kernel⟩
theorem mv_X11_isFrom : MS yX11_isFrom cX11_isFrom 3 (some .boolean) 3 := ⟨tb_426, tb_425, tb_49, by decide +kernel⟩
theorem mv_X11_isWard : MS yX11_isWard cX11_isWard 1 (some .boolean) 1 := ⟨tb_429, tb_428, tb_49, by decide +kernel⟩
theorem mv_X12_in : MS yX12_in cX12_in 3 (some .boolean) 3 := ⟨tb_1172, tb_1171, tb_61, by decide +kernel⟩
theorem mv_X9_measure : MV yX9_measure cX9_measure 3 none RX9 0 := ⟨tb_457, tb_456, tb_0, tb_51, by decide +kernel⟩
theorem mv_X9_shortenFrom : MV yX9_shortenFrom cX9_shortenFrom 7 none RX9 2 := ⟨tb_464, tb_463, tb_1, tb_51, by decide +kernel⟩

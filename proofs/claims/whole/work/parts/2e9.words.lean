theorem tb_28 : Cond.selects RX12 yX12_makeLengths yX12_makeLengths ∈ gw_tbl := mg (List.mem_of_getElem? (i := 28) (by decide +kernel)) rfl
theorem tb_30 : Cond.selects RX12 yX12_give yX12_give ∈ gw_tbl := mg (List.mem_of_getElem? (i := 30) (by decide +kernel)) rfl
theorem tb_1004 : Cond.fieldLink RX12 39 "WardWatchModel" "given" "[I" ∈ gw_tbl := mg (List.mem_of_getElem? (i := 1004) (by decide +kernel)) rfl
theorem tb_1005 : Cond.fieldLink RX12 42 "WardWatchModel" "bestGiven" "[I" ∈ gw_tbl := mg (List.mem_of_getElem? (i := 1005) (by decide +kernel)) rfl
theorem tb_1006 : Cond.fieldLink RX12 45 "WardWatchModel" "partOf" "[I" ∈ gw_tbl := mg (List.mem_of_getElem? (i := 1006) (by decide +kernel)) rfl
theorem tb_1007 : Cond.fieldLink RX12 208 "WardWatchModel" "bestMen" "I" ∈ gw_tbl := mg (List.mem_of_getElem? (i := 1007) (by decide +kernel)) rfl
theorem tb_1008 : Cond.fieldLink RX12 215 "WardWatchModel" "bestSum" "I" ∈ gw_tbl := mg (List.mem_of_getElem? (i := 1008) (by decide +kernel)) rfl
theorem tb_1188 : Cond.methodLink RX12 218 yX12_makeLengths ∈ gw_tbl := mg (List.mem_of_getElem? (i := 1188) (by decide +kernel)) rfl
theorem tb_1190 : Cond.instanceMethod yX12_makeLengths ∈ gw_tbl := mg (List.mem_of_getElem? (i := 1190) (by decide +kernel)) rfl
theorem tb_1191 : Cond.code yX12_makeLengths cX12_makeLengths 9 none ∈ gw_tbl := mg (List.mem_of_getElem? (i := 1191) (by decide +kernel)) rfl
theorem tb_1199 : Cond.methodLink RX12 211 yX12_give ∈ gw_tbl := mg (List.mem_of_getElem? (i := 1199) (by decide +kernel)) rfl
theorem tb_1201 : Cond.instanceMethod yX12_give ∈ gw_tbl := mg (List.mem_of_getElem? (i := 1201) (by decide +kernel)) rfl
theorem tb_1202 : Cond.code yX12_give cX12_give 5 none ∈ gw_tbl := mg (List.mem_of_getElem? (i := 1202) (by decide +kernel)) rfl
theorem fd_12_18 : FD 12 18 RX12 TX12 56 1 "WardWatchModel" "given" "[I" := ⟨inX12, rfl, rfl, by decide, by decide, rfl, rfl, rfl⟩
theorem fd_12_19 : FD 12 19 RX12 TX12 56 1 "WardWatchModel" "bestGiven" "[I" := ⟨inX12, rfl, rfl, by decide, by decide, rfl, rfl, rfl⟩
theorem fd_12_20 : FD 12 20 RX12 TX12 56 1 "WardWatchModel" "partOf" "[I" := ⟨inX12, rfl, rfl, by decide, by decide, rfl, rfl, rfl⟩
theorem fd_12_21 : FD 12 21 RX12 TX12 56 0 "WardWatchModel" "bestMen" "I" := ⟨inX12, rfl, rfl, by decide, by decide, rfl, rfl, rfl⟩
theorem fd_12_22 : FD 12 22 RX12 TX12 56 0 "WardWatchModel" "bestSum" "I" := ⟨inX12, rfl, rfl, by decide, by decide, rfl, rfl, rfl⟩
theorem pd_12_15 : PD 12 15 RX12 TX12 56 (.int) := ⟨tyX12, tyX12_ok, nmX12, by decide +kernel, by decide⟩
theorem pd_12_21 : PD 12 21 RX12 TX12 56 (.int) := ⟨tyX12, tyX12_ok, nmX12, by decide +kernel, by decide⟩
theorem pd_12_22 : PD 12 22 RX12 TX12 56 (.int) := ⟨tyX12, tyX12_ok, nmX12, by decide +kernel, by decide⟩
theorem pd_12_23 : PD 12 23 RX12 TX12 56 (.boolean) := ⟨tyX12, tyX12_ok, nmX12, by decide +kernel, by decide⟩
theorem pd_12_24 : PD 12 24 RX12 TX12 56 (.int) := ⟨tyX12, tyX12_ok, nmX12, by decide +kernel, by decide⟩
theorem pd_12_25 : PD 12 25 RX12 TX12 56 (.int) := ⟨tyX12, tyX12_ok, nmX12, by decide +kernel, by decide⟩
theorem mv_X12_give : MV yX12_give cX12_give 5 none RX12 2 := ⟨tb_1202, tb_1201, tb_30, tb_61, by decide +kernel⟩
theorem mv_X12_makeLengths : MV yX12_makeLengths cX12_makeLengths 9 none RX12 0 := ⟨tb_1191, tb_1190, tb_28, tb_61, by decide +kernel⟩

theorem tb_84 : Cond.fieldLink RX8 9 "WardWatch$Tape" "bytes" "[B" ∈ gw_tbl := mg (List.mem_of_getElem? (i := 84) (by decide +kernel)) rfl
theorem tb_85 : Cond.fieldLink RX8 13 "WardWatch$Tape" "length" "I" ∈ gw_tbl := mg (List.mem_of_getElem? (i := 85) (by decide +kernel)) rfl
theorem inX8 : ∀ w ∈ u_ws RX8 TX8 2, w ∈ gw_tbl := fun w hw => mg ((by decide +kernel : ∀ w ∈ u_ws RX8 TX8 2, w ∈ lw_tbl) w hw) ((by decide +kernel : ∀ w ∈ u_ws RX8 TX8 2, goodWord w = true) w hw)
theorem fd_8_0 : FD 8 0 RX8 TX8 2 1 "WardWatch$Tape" "bytes" "[B" := ⟨inX8, rfl, rfl, by decide, by decide, rfl, rfl, rfl⟩
theorem fd_8_1 : FD 8 1 RX8 TX8 2 0 "WardWatch$Tape" "length" "I" := ⟨inX8, rfl, rfl, by decide, by decide, rfl, rfl, rfl⟩
theorem pd_8_1 : PD 8 1 RX8 TX8 2 (.int) := ⟨tyX8, tyX8_ok, nmX8, by decide +kernel, by decide⟩

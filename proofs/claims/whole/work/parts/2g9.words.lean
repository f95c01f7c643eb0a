theorem tb_75 : Cond.methodLink RX11 1 objectInit ∈ gw_tbl := mg (List.mem_of_getElem? (i := 75) (by decide +kernel)) rfl
theorem tb_76 : Cond.instanceMethod objectInit ∈ gw_tbl := mg (List.mem_of_getElem? (i := 76) (by decide +kernel)) rfl
theorem tb_77 : Cond.code objectInit ⟨#[0xb1]⟩ 1 none ∈ gw_tbl := mg (List.mem_of_getElem? (i := 77) (by decide +kernel)) rfl
theorem tb_78 : Cond.classLink RX11 7 RX8 ∈ gw_tbl := mg (List.mem_of_getElem? (i := 78) (by decide +kernel)) rfl
theorem tb_79 : Cond.instantiable RX8 2 ∈ gw_tbl := mg (List.mem_of_getElem? (i := 79) (by decide +kernel)) rfl
theorem tb_80 : Cond.methodLinkNest RX11 9 yX8_init "WardWatch" ∈ lw_tbl := List.mem_of_getElem? (i := 80) (by decide +kernel)
theorem tb_81 : Cond.instanceMethod yX8_init ∈ gw_tbl := mg (List.mem_of_getElem? (i := 81) (by decide +kernel)) rfl
theorem tb_82 : Cond.code yX8_init cX8_init 1 none ∈ gw_tbl := mg (List.mem_of_getElem? (i := 82) (by decide +kernel)) rfl
theorem tb_83 : Cond.methodLink RX8 1 objectInit ∈ gw_tbl := mg (List.mem_of_getElem? (i := 83) (by decide +kernel)) rfl
theorem tb_91 : Cond.arrayClass .byte ∈ gw_tbl := mg (List.mem_of_getElem? (i := 91) (by decide +kernel)) rfl
theorem tb_92 : Cond.classLink RX11 16 RX9 ∈ gw_tbl := mg (List.mem_of_getElem? (i := 92) (by decide +kernel)) rfl
theorem tb_93 : Cond.instantiable RX9 5 ∈ gw_tbl := mg (List.mem_of_getElem? (i := 93) (by decide +kernel)) rfl
theorem tb_94 : Cond.methodLink RX11 18 yX9_init ∈ gw_tbl := mg (List.mem_of_getElem? (i := 94) (by decide +kernel)) rfl
theorem tb_95 : Cond.instanceMethod yX9_init ∈ gw_tbl := mg (List.mem_of_getElem? (i := 95) (by decide +kernel)) rfl
theorem tb_96 : Cond.code yX9_init cX9_init 1 none ∈ gw_tbl := mg (List.mem_of_getElem? (i := 96) (by decide +kernel)) rfl
theorem tb_97 : Cond.methodLink RX9 3 objectInit ∈ gw_tbl := mg (List.mem_of_getElem? (i := 97) (by decide +kernel)) rfl
theorem tb_98 : Cond.methodLink RX9 28 yJ7_fill_53178 ∈ gw_tbl := mg (List.mem_of_getElem? (i := 98) (by decide +kernel)) rfl
theorem tb_117 : Cond.arrayClass .int ∈ gw_tbl := mg (List.mem_of_getElem? (i := 117) (by decide +kernel)) rfl
theorem tb_118 : Cond.classLink RX11 23 RX6 ∈ gw_tbl := mg (List.mem_of_getElem? (i := 118) (by decide +kernel)) rfl
theorem tb_119 : Cond.instantiable RX6 12 ∈ gw_tbl := mg (List.mem_of_getElem? (i := 119) (by decide +kernel)) rfl
theorem tb_120 : Cond.methodLink RX11 25 yX6_init ∈ gw_tbl := mg (List.mem_of_getElem? (i := 120) (by decide +kernel)) rfl
theorem tb_121 : Cond.instanceMethod yX6_init ∈ gw_tbl := mg (List.mem_of_getElem? (i := 121) (by decide +kernel)) rfl
theorem tb_122 : Cond.code yX6_init cX6_init 3 none ∈ gw_tbl := mg (List.mem_of_getElem? (i := 122) (by decide +kernel)) rfl
theorem tb_123 : Cond.methodLink RX6 5 objectInit ∈ gw_tbl := mg (List.mem_of_getElem? (i := 123) (by decide +kernel)) rfl
theorem tb_124 : Cond.methodLink RX6 40 yJ6_numberOfTrailingZeros_0f7a4 ∈ gw_tbl := mg (List.mem_of_getElem? (i := 124) (by decide +kernel)) rfl
theorem tb_125 : Cond.static yJ6_numberOfTrailingZeros_0f7a4 ∈ gw_tbl := mg (List.mem_of_getElem? (i := 125) (by decide +kernel)) rfl
theorem tb_126 : Cond.code yJ6_numberOfTrailingZeros_0f7a4 cJ6_numberOfTrailingZeros_0f7a4 2 (some .int) ∈ gw_tbl := mg (List.mem_of_getElem? (i := 126) (by decide +kernel)) rfl
theorem tb_168 : Cond.arrayClass .long ∈ gw_tbl := mg (List.mem_of_getElem? (i := 168) (by decide +kernel)) rfl
theorem tb_169 : Cond.classLink RX11 30 RX3 ∈ gw_tbl := mg (List.mem_of_getElem? (i := 169) (by decide +kernel)) rfl
theorem tb_170 : Cond.instantiable RX3 8 ∈ gw_tbl := mg (List.mem_of_getElem? (i := 170) (by decide +kernel)) rfl
theorem tb_171 : Cond.methodLink RX11 32 yX3_init ∈ gw_tbl := mg (List.mem_of_getElem? (i := 171) (by decide +kernel)) rfl
theorem tb_172 : Cond.instanceMethod yX3_init ∈ gw_tbl := mg (List.mem_of_getElem? (i := 172) (by decide +kernel)) rfl
theorem tb_173 : Cond.code yX3_init cX3_init 2 none ∈ gw_tbl := mg (List.mem_of_getElem? (i := 173) (by decide +kernel)) rfl
theorem tb_174 : Cond.methodLink RX3 3 objectInit ∈ gw_tbl := mg (List.mem_of_getElem? (i := 174) (by decide +kernel)) rfl
theorem tb_200 : Cond.classLink RX11 39 RX10 ∈ gw_tbl := mg (List.mem_of_getElem? (i := 200) (by decide +kernel)) rfl
theorem tb_201 : Cond.arrayOver (.object RX10) ∈ lw_tbl := List.mem_of_getElem? (i := 201) (by decide +kernel)
theorem tb_202 : Cond.classLink RX11 45 RX7 ∈ gw_tbl := mg (List.mem_of_getElem? (i := 202) (by decide +kernel)) rfl
theorem tb_203 : Cond.instantiable RX7 2 ∈ gw_tbl := mg (List.mem_of_getElem? (i := 203) (by decide +kernel)) rfl
theorem tb_204 : Cond.methodLinkNest RX11 47 yX7_init "WardWatch" ∈ lw_tbl := List.mem_of_getElem? (i := 204) (by decide +kernel)
theorem tb_205 : Cond.instanceMethod yX7_init ∈ gw_tbl := mg (List.mem_of_getElem? (i := 205) (by decide +kernel)) rfl
theorem tb_206 : Cond.code yX7_init cX7_init 1 none ∈ gw_tbl := mg (List.mem_of_getElem? (i := 206) (by decide +kernel)) rfl
theorem tb_207 : Cond.methodLink RX7 3 objectInit ∈ gw_tbl := mg (List.mem_of_getElem? (i := 207) (by decide +kernel)) rfl
theorem tb_208 : Cond.classLink RX7 11 RX2 ∈ gw_tbl := mg (List.mem_of_getElem? (i := 208) (by decide +kernel)) rfl
theorem tb_209 : Cond.arrayOver (.object RX2) ∈ lw_tbl := List.mem_of_getElem? (i := 209) (by decide +kernel)
theorem tb_217 : Cond.classLink RX11 52 RX5 ∈ gw_tbl := mg (List.mem_of_getElem? (i := 217) (by decide +kernel)) rfl
theorem tb_218 : Cond.instantiable RX5 2 ∈ gw_tbl := mg (List.mem_of_getElem? (i := 218) (by decide +kernel)) rfl
theorem tb_219 : Cond.methodLinkNest RX11 54 yX5_init "WardWatch" ∈ lw_tbl := List.mem_of_getElem? (i := 219) (by decide +kernel)
theorem tb_220 : Cond.instanceMethod yX5_init ∈ gw_tbl := mg (List.mem_of_getElem? (i := 220) (by decide +kernel)) rfl
theorem tb_221 : Cond.code yX5_init cX5_init 1 none ∈ gw_tbl := mg (List.mem_of_getElem? (i := 221) (by decide +kernel)) rfl
theorem tb_222 : Cond.methodLink RX5 3 objectInit ∈ gw_tbl := mg (List.mem_of_getElem? (i := 222) (by decide +kernel)) rfl
theorem tb_223 : Cond.classLink RX5 11 RX0 ∈ gw_tbl := mg (List.mem_of_getElem? (i := 223) (by decide +kernel)) rfl
theorem tb_224 : Cond.arrayOver (.object RX0) ∈ lw_tbl := List.mem_of_getElem? (i := 224) (by decide +kernel)
theorem tb_232 : Cond.classLink RX11 59 RX1 ∈ gw_tbl := mg (List.mem_of_getElem? (i := 232) (by decide +kernel)) rfl
theorem tb_233 : Cond.instantiable RX1 4 ∈ gw_tbl := mg (List.mem_of_getElem? (i := 233) (by decide +kernel)) rfl
theorem tb_234 : Cond.methodLinkNest RX11 61 yX1_init "WardWatch" ∈ lw_tbl := List.mem_of_getElem? (i := 234) (by decide +kernel)
theorem tb_235 : Cond.instanceMethod yX1_init ∈ gw_tbl := mg (List.mem_of_getElem? (i := 235) (by decide +kernel)) rfl
theorem tb_236 : Cond.code yX1_init cX1_init 1 none ∈ gw_tbl := mg (List.mem_of_getElem? (i := 236) (by decide +kernel)) rfl
theorem tb_237 : Cond.methodLink RX1 3 objectInit ∈ gw_tbl := mg (List.mem_of_getElem? (i := 237) (by decide +kernel)) rfl
theorem tb_251 : Cond.classLink RX11 66 RX4 ∈ gw_tbl := mg (List.mem_of_getElem? (i := 251) (by decide +kernel)) rfl
theorem tb_252 : Cond.instantiable RX4 13 ∈ gw_tbl := mg (List.mem_of_getElem? (i := 252) (by decide +kernel)) rfl
theorem tb_253 : Cond.methodLink RX11 68 yX4_init ∈ gw_tbl := mg (List.mem_of_getElem? (i := 253) (by decide +kernel)) rfl
theorem tb_254 : Cond.instanceMethod yX4_init ∈ gw_tbl := mg (List.mem_of_getElem? (i := 254) (by decide +kernel)) rfl
theorem tb_255 : Cond.code yX4_init cX4_init 1 none ∈ gw_tbl := mg (List.mem_of_getElem? (i := 255) (by decide +kernel)) rfl
theorem tb_256 : Cond.methodLink RX4 3 objectInit ∈ gw_tbl := mg (List.mem_of_getElem? (i := 256) (by decide +kernel)) rfl
theorem tb_257 : Cond.methodLink RX4 25 yX4_forget ∈ gw_tbl := mg (List.mem_of_getElem? (i := 257) (by decide +kernel)) rfl
theorem tb_319 : Cond.arrayClass .boolean ∈ gw_tbl := mg (List.mem_of_getElem? (i := 319) (by decide +kernel)) rfl
theorem tb_320 : Cond.instantiable RX10 9 ∈ gw_tbl := mg (List.mem_of_getElem? (i := 320) (by decide +kernel)) rfl
theorem tb_321 : Cond.methodLinkNest RX11 73 yX10_init "WardWatch" ∈ lw_tbl := List.mem_of_getElem? (i := 321) (by decide +kernel)
theorem tb_322 : Cond.instanceMethod yX10_init ∈ gw_tbl := mg (List.mem_of_getElem? (i := 322) (by decide +kernel)) rfl
theorem tb_323 : Cond.code yX10_init cX10_init 1 none ∈ gw_tbl := mg (List.mem_of_getElem? (i := 323) (by decide +kernel)) rfl
theorem tb_324 : Cond.methodLink RX10 3 objectInit ∈ gw_tbl := mg (List.mem_of_getElem? (i := 324) (by decide +kernel)) rfl
theorem tb_325 : Cond.classLink RX10 9 RX4 ∈ gw_tbl := mg (List.mem_of_getElem? (i := 325) (by decide +kernel)) rfl
theorem tb_326 : Cond.methodLink RX10 11 yX4_init ∈ gw_tbl := mg (List.mem_of_getElem? (i := 326) (by decide +kernel)) rfl
theorem tb_338 : Cond.fieldLink RX10 18 "WardWatch$Ward" "turn" "I" ∈ gw_tbl := mg (List.mem_of_getElem? (i := 338) (by decide +kernel)) rfl
theorem tb_728 : Cond.methodLink RX11 151 yX7_add ∈ gw_tbl := mg (List.mem_of_getElem? (i := 728) (by decide +kernel)) rfl
theorem tb_729 : Cond.instanceMethod yX7_add ∈ gw_tbl := mg (List.mem_of_getElem? (i := 729) (by decide +kernel)) rfl
theorem tb_730 : Cond.selects RX7 yX7_add yX7_add ∈ gw_tbl := mg (List.mem_of_getElem? (i := 730) (by decide +kernel)) rfl
theorem tb_731 : Cond.code yX7_add cX7_add 3 (some .int) ∈ gw_tbl := mg (List.mem_of_getElem? (i := 731) (by decide +kernel)) rfl
theorem tb_732 : Cond.instantiable RX2 6 ∈ gw_tbl := mg (List.mem_of_getElem? (i := 732) (by decide +kernel)) rfl
theorem tb_733 : Cond.methodLink RX7 21 yX2_init ∈ gw_tbl := mg (List.mem_of_getElem? (i := 733) (by decide +kernel)) rfl
theorem tb_734 : Cond.instanceMethod yX2_init ∈ gw_tbl := mg (List.mem_of_getElem? (i := 734) (by decide +kernel)) rfl
theorem tb_735 : Cond.code yX2_init cX2_init 3 none ∈ gw_tbl := mg (List.mem_of_getElem? (i := 735) (by decide +kernel)) rfl
theorem tb_736 : Cond.methodLink RX2 3 objectInit ∈ gw_tbl := mg (List.mem_of_getElem? (i := 736) (by decide +kernel)) rfl
theorem tb_840 : Cond.methodLink RX11 180 yX5_isFull ∈ gw_tbl := mg (List.mem_of_getElem? (i := 840) (by decide +kernel)) rfl
theorem tb_841 : Cond.instanceMethod yX5_isFull ∈ gw_tbl := mg (List.mem_of_getElem? (i := 841) (by decide +kernel)) rfl
theorem tb_842 : Cond.selects RX5 yX5_isFull yX5_isFull ∈ gw_tbl := mg (List.mem_of_getElem? (i := 842) (by decide +kernel)) rfl
theorem tb_843 : Cond.code yX5_isFull cX5_isFull 1 (some .boolean) ∈ gw_tbl := mg (List.mem_of_getElem? (i := 843) (by decide +kernel)) rfl
theorem tb_844 : Cond.classLink RX11 184 RX0 ∈ gw_tbl := mg (List.mem_of_getElem? (i := 844) (by decide +kernel)) rfl
theorem tb_845 : Cond.instantiable RX0 5 ∈ gw_tbl := mg (List.mem_of_getElem? (i := 845) (by decide +kernel)) rfl
theorem tb_846 : Cond.methodLink RX11 186 yX0_init ∈ gw_tbl := mg (List.mem_of_getElem? (i := 846) (by decide +kernel)) rfl
theorem tb_847 : Cond.instanceMethod yX0_init ∈ gw_tbl := mg (List.mem_of_getElem? (i := 847) (by decide +kernel)) rfl
theorem tb_848 : Cond.code yX0_init cX0_init 4 none ∈ gw_tbl := mg (List.mem_of_getElem? (i := 848) (by decide +kernel)) rfl
theorem tb_849 : Cond.methodLink RX0 3 objectInit ∈ gw_tbl := mg (List.mem_of_getElem? (i := 849) (by decide +kernel)) rfl
theorem tb_871 : Cond.methodLink RX11 188 yX5_take ∈ gw_tbl := mg (List.mem_of_getElem? (i := 871) (by decide +kernel)) rfl
theorem tb_872 : Cond.instanceMethod yX5_take ∈ gw_tbl := mg (List.mem_of_getElem? (i := 872) (by decide +kernel)) rfl
theorem tb_873 : Cond.selects RX5 yX5_take yX5_take ∈ gw_tbl := mg (List.mem_of_getElem? (i := 873) (by decide +kernel)) rfl
theorem tb_874 : Cond.code yX5_take cX5_take 5 (some .int) ∈ gw_tbl := mg (List.mem_of_getElem? (i := 874) (by decide +kernel)) rfl
theorem tb_977 : Cond.methodLink RX12 1 objectInit ∈ gw_tbl := mg (List.mem_of_getElem? (i := 977) (by decide +kernel)) rfl
theorem pd_11_0 : PD 11 0 RX11 TX11 9 (.object "WardWatch$Tape") := ⟨tyX11, tyX11_ok, nmX11, by decide +kernel, by decide⟩
theorem pd_11_1 : PD 11 1 RX11 TX11 9 (.object "WardWatch$Town") := ⟨tyX11, tyX11_ok, nmX11, by decide +kernel, by decide⟩
theorem pd_11_2 : PD 11 2 RX11 TX11 9 (.object "WardWatch$Planner") := ⟨tyX11, tyX11_ok, nmX11, by decide +kernel, by decide⟩
theorem pd_11_3 : PD 11 3 RX11 TX11 9 (.object "WardWatch$LawReader") := ⟨tyX11, tyX11_ok, nmX11, by decide +kernel, by decide⟩
theorem pd_11_4 : PD 11 4 RX11 TX11 9 (.array (.object "WardWatch$Ward")) := ⟨tyX11, tyX11_ok, nmX11, by decide +kernel, by decide⟩
theorem pd_11_5 : PD 11 5 RX11 TX11 9 (.object "WardWatch$Roll") := ⟨tyX11, tyX11_ok, nmX11, by decide +kernel, by decide⟩
theorem pd_11_6 : PD 11 6 RX11 TX11 9 (.object "WardWatch$Nights") := ⟨tyX11, tyX11_ok, nmX11, by decide +kernel, by decide⟩
theorem pd_11_7 : PD 11 7 RX11 TX11 9 (.object "WardWatch$Flight") := ⟨tyX11, tyX11_ok, nmX11, by decide +kernel, by decide⟩
theorem pd_0_0 : PD 0 0 RX0 TX0 5 (.int) := ⟨tyX0, tyX0_ok, nmX0, by decide +kernel, by decide⟩
theorem pd_0_1 : PD 0 1 RX0 TX0 5 (.int) := ⟨tyX0, tyX0_ok, nmX0, by decide +kernel, by decide⟩
theorem pd_0_2 : PD 0 2 RX0 TX0 5 (.int) := ⟨tyX0, tyX0_ok, nmX0, by decide +kernel, by decide⟩
theorem pd_1_0 : PD 1 0 RX1 TX1 4 (.array .int) := ⟨tyX1, tyX1_ok, nmX1, by decide +kernel, by decide⟩
theorem pd_2_0 : PD 2 0 RX2 TX2 6 (.int) := ⟨tyX2, tyX2_ok, nmX2, by decide +kernel, by decide⟩
theorem pd_2_1 : PD 2 1 RX2 TX2 6 (.int) := ⟨tyX2, tyX2_ok, nmX2, by decide +kernel, by decide⟩
theorem pd_3_0 : PD 3 0 RX3 TX3 8 (.object "WardWatch$Tape") := ⟨tyX3, tyX3_ok, nmX3, by decide +kernel, by decide⟩
theorem pd_4_9 : PD 4 9 RX4 TX4 13 (.array .int) := ⟨tyX4, tyX4_ok, nmX4, by decide +kernel, by decide⟩
theorem pd_4_10 : PD 4 10 RX4 TX4 13 (.array .int) := ⟨tyX4, tyX4_ok, nmX4, by decide +kernel, by decide⟩
theorem pd_4_11 : PD 4 11 RX4 TX4 13 (.array .int) := ⟨tyX4, tyX4_ok, nmX4, by decide +kernel, by decide⟩
theorem pd_4_12 : PD 4 12 RX4 TX4 13 (.array .boolean) := ⟨tyX4, tyX4_ok, nmX4, by decide +kernel, by decide⟩
theorem pd_5_0 : PD 5 0 RX5 TX5 2 (.array (.object "WardWatch$Charge")) := ⟨tyX5, tyX5_ok, nmX5, by decide +kernel, by decide⟩
theorem pd_6_0 : PD 6 0 RX6 TX6 12 (.array .int) := ⟨tyX6, tyX6_ok, nmX6, by decide +kernel, by decide⟩
theorem pd_6_1 : PD 6 1 RX6 TX6 12 (.array .int) := ⟨tyX6, tyX6_ok, nmX6, by decide +kernel, by decide⟩
theorem pd_6_2 : PD 6 2 RX6 TX6 12 (.array .int) := ⟨tyX6, tyX6_ok, nmX6, by decide +kernel, by decide⟩
theorem pd_6_3 : PD 6 3 RX6 TX6 12 (.array .int) := ⟨tyX6, tyX6_ok, nmX6, by decide +kernel, by decide⟩
theorem pd_6_4 : PD 6 4 RX6 TX6 12 (.array .long) := ⟨tyX6, tyX6_ok, nmX6, by decide +kernel, by decide⟩
theorem pd_6_5 : PD 6 5 RX6 TX6 12 (.array .long) := ⟨tyX6, tyX6_ok, nmX6, by decide +kernel, by decide⟩
theorem pd_6_9 : PD 6 9 RX6 TX6 12 (.array .int) := ⟨tyX6, tyX6_ok, nmX6, by decide +kernel, by decide⟩
theorem pd_6_10 : PD 6 10 RX6 TX6 12 (.array .int) := ⟨tyX6, tyX6_ok, nmX6, by decide +kernel, by decide⟩
theorem pd_6_11 : PD 6 11 RX6 TX6 12 (.array .int) := ⟨tyX6, tyX6_ok, nmX6, by decide +kernel, by decide⟩
theorem pd_7_0 : PD 7 0 RX7 TX7 2 (.array (.object "WardWatch$House")) := ⟨tyX7, tyX7_ok, nmX7, by decide +kernel, by decide⟩
theorem pd_7_1 : PD 7 1 RX7 TX7 2 (.int) := ⟨tyX7, tyX7_ok, nmX7, by decide +kernel, by decide⟩
theorem pd_8_0 : PD 8 0 RX8 TX8 2 (.array .byte) := ⟨tyX8, tyX8_ok, nmX8, by decide +kernel, by decide⟩
theorem pd_9_0 : PD 9 0 RX9 TX9 5 (.array .int) := ⟨tyX9, tyX9_ok, nmX9, by decide +kernel, by decide⟩
theorem pd_9_1 : PD 9 1 RX9 TX9 5 (.array .int) := ⟨tyX9, tyX9_ok, nmX9, by decide +kernel, by decide⟩
theorem pd_9_2 : PD 9 2 RX9 TX9 5 (.array .int) := ⟨tyX9, tyX9_ok, nmX9, by decide +kernel, by decide⟩
theorem pd_9_3 : PD 9 3 RX9 TX9 5 (.array .int) := ⟨tyX9, tyX9_ok, nmX9, by decide +kernel, by decide⟩
theorem pd_10_6 : PD 10 6 RX10 TX10 9 (.array .int) := ⟨tyX10, tyX10_ok, nmX10, by decide +kernel, by decide⟩
theorem pd_10_7 : PD 10 7 RX10 TX10 9 (.array .boolean) := ⟨tyX10, tyX10_ok, nmX10, by decide +kernel, by decide⟩
theorem pd_10_8 : PD 10 8 RX10 TX10 9 (.array .int) := ⟨tyX10, tyX10_ok, nmX10, by decide +kernel, by decide⟩
theorem pd_12_0 : PD 12 0 RX12 TX12 56 (.array .byte) := ⟨tyX12, tyX12_ok, nmX12, by decide +kernel, by decide⟩
theorem pd_12_10 : PD 12 10 RX12 TX12 56 (.array .int) := ⟨tyX12, tyX12_ok, nmX12, by decide +kernel, by decide⟩
theorem pd_12_11 : PD 12 11 RX12 TX12 56 (.array .int) := ⟨tyX12, tyX12_ok, nmX12, by decide +kernel, by decide⟩
theorem pd_12_12 : PD 12 12 RX12 TX12 56 (.array .int) := ⟨tyX12, tyX12_ok, nmX12, by decide +kernel, by decide⟩
theorem pd_12_13 : PD 12 13 RX12 TX12 56 (.array .int) := ⟨tyX12, tyX12_ok, nmX12, by decide +kernel, by decide⟩
theorem pd_12_14 : PD 12 14 RX12 TX12 56 (.array .int) := ⟨tyX12, tyX12_ok, nmX12, by decide +kernel, by decide⟩
theorem pd_12_16 : PD 12 16 RX12 TX12 56 (.array .int) := ⟨tyX12, tyX12_ok, nmX12, by decide +kernel, by decide⟩
theorem pd_12_17 : PD 12 17 RX12 TX12 56 (.array .int) := ⟨tyX12, tyX12_ok, nmX12, by decide +kernel, by decide⟩
theorem pd_12_18 : PD 12 18 RX12 TX12 56 (.array .int) := ⟨tyX12, tyX12_ok, nmX12, by decide +kernel, by decide⟩
theorem pd_12_19 : PD 12 19 RX12 TX12 56 (.array .int) := ⟨tyX12, tyX12_ok, nmX12, by decide +kernel, by decide⟩
theorem pd_12_20 : PD 12 20 RX12 TX12 56 (.array .int) := ⟨tyX12, tyX12_ok, nmX12, by decide +kernel, by decide⟩
theorem pd_12_26 : PD 12 26 RX12 TX12 56 (.array .int) := ⟨tyX12, tyX12_ok, nmX12, by decide +kernel, by decide⟩
theorem pd_12_27 : PD 12 27 RX12 TX12 56 (.array .int) := ⟨tyX12, tyX12_ok, nmX12, by decide +kernel, by decide⟩
theorem pd_12_28 : PD 12 28 RX12 TX12 56 (.array .int) := ⟨tyX12, tyX12_ok, nmX12, by decide +kernel, by decide⟩
theorem pd_12_29 : PD 12 29 RX12 TX12 56 (.array .int) := ⟨tyX12, tyX12_ok, nmX12, by decide +kernel, by decide⟩
theorem pd_12_30 : PD 12 30 RX12 TX12 56 (.array .int) := ⟨tyX12, tyX12_ok, nmX12, by decide +kernel, by decide⟩
theorem pd_12_31 : PD 12 31 RX12 TX12 56 (.array .int) := ⟨tyX12, tyX12_ok, nmX12, by decide +kernel, by decide⟩
theorem pd_12_33 : PD 12 33 RX12 TX12 56 (.array .int) := ⟨tyX12, tyX12_ok, nmX12, by decide +kernel, by decide⟩
theorem pd_12_34 : PD 12 34 RX12 TX12 56 (.array .int) := ⟨tyX12, tyX12_ok, nmX12, by decide +kernel, by decide⟩
theorem pd_12_35 : PD 12 35 RX12 TX12 56 (.array .int) := ⟨tyX12, tyX12_ok, nmX12, by decide +kernel, by decide⟩
theorem pd_12_36 : PD 12 36 RX12 TX12 56 (.array .int) := ⟨tyX12, tyX12_ok, nmX12, by decide +kernel, by decide⟩
theorem pd_12_37 : PD 12 37 RX12 TX12 56 (.array .int) := ⟨tyX12, tyX12_ok, nmX12, by decide +kernel, by decide⟩
theorem pd_12_38 : PD 12 38 RX12 TX12 56 (.array .int) := ⟨tyX12, tyX12_ok, nmX12, by decide +kernel, by decide⟩
theorem pd_12_39 : PD 12 39 RX12 TX12 56 (.array .int) := ⟨tyX12, tyX12_ok, nmX12, by decide +kernel, by decide⟩
theorem pd_12_40 : PD 12 40 RX12 TX12 56 (.array .int) := ⟨tyX12, tyX12_ok, nmX12, by decide +kernel, by decide⟩
theorem pd_12_41 : PD 12 41 RX12 TX12 56 (.array .int) := ⟨tyX12, tyX12_ok, nmX12, by decide +kernel, by decide⟩
theorem pd_12_42 : PD 12 42 RX12 TX12 56 (.array .int) := ⟨tyX12, tyX12_ok, nmX12, by decide +kernel, by decide⟩
theorem pd_12_43 : PD 12 43 RX12 TX12 56 (.array .boolean) := ⟨tyX12, tyX12_ok, nmX12, by decide +kernel, by decide⟩
theorem pd_12_44 : PD 12 44 RX12 TX12 56 (.array .int) := ⟨tyX12, tyX12_ok, nmX12, by decide +kernel, by decide⟩
theorem pd_12_45 : PD 12 45 RX12 TX12 56 (.array .int) := ⟨tyX12, tyX12_ok, nmX12, by decide +kernel, by decide⟩
theorem pd_12_47 : PD 12 47 RX12 TX12 56 (.array .int) := ⟨tyX12, tyX12_ok, nmX12, by decide +kernel, by decide⟩
theorem pd_12_48 : PD 12 48 RX12 TX12 56 (.array .int) := ⟨tyX12, tyX12_ok, nmX12, by decide +kernel, by decide⟩
theorem pd_12_49 : PD 12 49 RX12 TX12 56 (.array .int) := ⟨tyX12, tyX12_ok, nmX12, by decide +kernel, by decide⟩
theorem pd_12_50 : PD 12 50 RX12 TX12 56 (.array .int) := ⟨tyX12, tyX12_ok, nmX12, by decide +kernel, by decide⟩
theorem pd_12_51 : PD 12 51 RX12 TX12 56 (.array .int) := ⟨tyX12, tyX12_ok, nmX12, by decide +kernel, by decide⟩
theorem pd_12_54 : PD 12 54 RX12 TX12 56 (.array .long) := ⟨tyX12, tyX12_ok, nmX12, by decide +kernel, by decide⟩
theorem nd_0 : ND 0 5 RX0 TX0 := ⟨inX0, ⟨tyX0, tyX0_ok, by decide +kernel⟩, tb_845, tb_69, rfl, by decide⟩
theorem nd_1 : ND 1 4 RX1 TX1 := ⟨inX1, ⟨tyX1, tyX1_ok, by decide +kernel⟩, tb_233, tb_58, rfl, by decide⟩
theorem nd_2 : ND 2 6 RX2 TX2 := ⟨inX2, ⟨tyX2, tyX2_ok, by decide +kernel⟩, tb_732, tb_68, rfl, by decide⟩
theorem nd_3 : ND 3 8 RX3 TX3 := ⟨inX3, ⟨tyX3, tyX3_ok, by decide +kernel⟩, tb_170, tb_55, rfl, by decide⟩
theorem nd_4 : ND 4 13 RX4 TX4 := ⟨inX4, ⟨tyX4, tyX4_ok, by decide +kernel⟩, tb_252, tb_59, rfl, by decide⟩
theorem nd_5 : ND 5 2 RX5 TX5 := ⟨inX5, ⟨tyX5, tyX5_ok, by decide +kernel⟩, tb_218, tb_57, rfl, by decide⟩
theorem nd_6 : ND 6 12 RX6 TX6 := ⟨inX6, ⟨tyX6, tyX6_ok, by decide +kernel⟩, tb_119, tb_53, rfl, by decide⟩
theorem nd_7 : ND 7 2 RX7 TX7 := ⟨inX7, ⟨tyX7, tyX7_ok, by decide +kernel⟩, tb_203, tb_56, rfl, by decide⟩
theorem nd_8 : ND 8 2 RX8 TX8 := ⟨inX8, ⟨tyX8, tyX8_ok, by decide +kernel⟩, tb_79, tb_50, rfl, by decide⟩
theorem nd_9 : ND 9 5 RX9 TX9 := ⟨inX9, ⟨tyX9, tyX9_ok, by decide +kernel⟩, tb_93, tb_51, rfl, by decide⟩
theorem nd_10 : ND 10 9 RX10 TX10 := ⟨inX10, ⟨tyX10, tyX10_ok, by decide +kernel⟩, tb_320, tb_60, rfl, by decide⟩
theorem mv_J6_numberOfTrailingZeros_0f7a4 : MS yJ6_numberOfTrailingZeros_0f7a4 cJ6_numberOfTrailingZeros_0f7a4 2 (some .int) 1 := ⟨tb_126, tb_125, tb_54, by decide +kernel⟩
theorem mv_X0_init : MC yX0_init cX0_init 4 3 := ⟨tb_848, tb_847, tb_69, rfl, by decide +kernel⟩
theorem mv_X10_init : MC yX10_init cX10_init 1 0 := ⟨tb_323, tb_322, tb_60, rfl, by decide +kernel⟩
theorem mv_X1_init : MC yX1_init cX1_init 1 0 := ⟨tb_236, tb_235, tb_58, rfl, by decide +kernel⟩
theorem mv_X2_init : MC yX2_init cX2_init 3 2 := ⟨tb_735, tb_734, tb_68, rfl, by decide +kernel⟩
theorem mv_X3_init : MC yX3_init cX3_init 2 1 := ⟨tb_173, tb_172, tb_55, rfl, by decide +kernel⟩
theorem mv_X4_init : MC yX4_init cX4_init 1 0 := ⟨tb_255, tb_254, tb_59, rfl, by decide +kernel⟩
theorem mv_X5_init : MC yX5_init cX5_init 1 0 := ⟨tb_221, tb_220, tb_57, rfl, by decide +kernel⟩
theorem mv_X5_isFull : MV yX5_isFull cX5_isFull 1 (some .boolean) RX5 0 := ⟨tb_843, tb_841, tb_842, tb_57, by decide +kernel⟩
theorem mv_X5_take : MV yX5_take cX5_take 5 (some .int) RX5 3 := ⟨tb_874, tb_872, tb_873, tb_57, by decide +kernel⟩
theorem mv_X6_init : MC yX6_init cX6_init 3 0 := ⟨tb_122, tb_121, tb_53, rfl, by decide +kernel⟩
theorem mv_X7_add : MV yX7_add cX7_add 3 (some .int) RX7 2 := ⟨tb_731, tb_729, tb_730, tb_56, by decide +kernel⟩
theorem mv_X7_init : MC yX7_init cX7_init 1 0 := ⟨tb_206, tb_205, tb_56, rfl, by decide +kernel⟩
theorem mv_X8_init : MC yX8_init cX8_init 1 0 := ⟨tb_82, tb_81, tb_50, rfl, by decide +kernel⟩
theorem mv_X9_init : MC yX9_init cX9_init 1 0 := ⟨tb_96, tb_95, tb_51, rfl, by decide +kernel⟩

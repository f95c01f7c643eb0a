theorem dX12_turns_118 : decode cX12_turns 118 = .ok (.iconst 1, 1) := by decide +kernel
theorem dX12_turns_119 : decode cX12_turns 119 = .ok (.if_icmp .ne 20, 3) := by decide +kernel
theorem dX12_turns_122 : decode cX12_turns 122 = .ok (.iload 5, 2) := by decide +kernel
theorem dX12_turns_124 : decode cX12_turns 124 = .ok (.iconst (-1), 1) := by decide +kernel
theorem dX12_turns_125 : decode cX12_turns 125 = .ok (.if_icmp .eq 14, 3) := by decide +kernel
theorem dX12_turns_128 : decode cX12_turns 128 = .ok (.aload_n 0, 1) := by decide +kernel
theorem dX12_turns_129 : decode cX12_turns 129 = .ok (.getfield 72, 3) := by decide +kernel
theorem dX12_turns_132 : decode cX12_turns 132 = .ok (.iload_n 1, 1) := by decide +kernel
theorem dX12_turns_133 : decode cX12_turns 133 = .ok (.iaload, 1) := by decide +kernel
theorem dX12_turns_134 : decode cX12_turns 134 = .ok (.iload 5, 2) := by decide +kernel
theorem dX12_turns_136 : decode cX12_turns 136 = .ok (.if_icmp .ge 4, 3) := by decide +kernel
theorem dX12_turns_139 : decode cX12_turns 139 = .ok (.return_, 1) := by decide +kernel
theorem dX12_turns_140 : decode cX12_turns 140 = .ok (.aload_n 0, 1) := by decide +kernel
theorem dX12_turns_141 : decode cX12_turns 141 = .ok (.getfield 72, 3) := by decide +kernel
theorem dX12_turns_144 : decode cX12_turns 144 = .ok (.iload_n 1, 1) := by decide +kernel
theorem dX12_turns_145 : decode cX12_turns 145 = .ok (.dup2, 1) := by decide +kernel
theorem dX12_turns_146 : decode cX12_turns 146 = .ok (.iaload, 1) := by decide +kernel
theorem dX12_turns_147 : decode cX12_turns 147 = .ok (.iload 5, 2) := by decide +kernel
theorem dX12_turns_149 : decode cX12_turns 149 = .ok (.isub, 1) := by decide +kernel
theorem dX12_turns_150 : decode cX12_turns 150 = .ok (.iastore, 1) := by decide +kernel
theorem dX12_turns_151 : decode cX12_turns 151 = .ok (.aload_n 0, 1) := by decide +kernel
theorem dX12_turns_152 : decode cX12_turns 152 = .ok (.getfield 96, 3) := by decide +kernel
theorem dX12_turns_155 : decode cX12_turns 155 = .ok (.iload_n 3, 1) := by decide +kernel
theorem dX12_turns_156 : decode cX12_turns 156 = .ok (.iconst 1, 1) := by decide +kernel
theorem dX12_turns_157 : decode cX12_turns 157 = .ok (.bastore, 1) := by decide +kernel
theorem dX12_turns_158 : decode cX12_turns 158 = .ok (.return_, 1) := by decide +kernel
theorem dX12_year_0 : decode cX12_year 0 = .ok (.iload_n 1, 1) := by decide +kernel
theorem dX12_year_1 : decode cX12_year 1 = .ok (.invokestatic 195, 3) := by decide +kernel
theorem dX12_year_4 : decode cX12_year 4 = .ok (.ifCond .eq 41, 3) := by decide +kernel
theorem dX12_year_7 : decode cX12_year 7 = .ok (.aload_n 0, 1) := by decide +kernel
theorem dX12_year_8 : decode cX12_year 8 = .ok (.getfield 84, 3) := by decide +kernel
theorem dX12_year_11 : decode cX12_year 11 = .ok (.iload_n 1, 1) := by decide +kernel
theorem dX12_year_12 : decode cX12_year 12 = .ok (.iaload, 1) := by decide +kernel
theorem dX12_year_13 : decode cX12_year 13 = .ok (.iconst (-1), 1) := by decide +kernel
theorem dX12_year_14 : decode cX12_year 14 = .ok (.if_icmp .eq 31, 3) := by decide +kernel
theorem dX12_year_17 : decode cX12_year 17 = .ok (.iload_n 2, 1) := by decide +kernel
theorem dX12_year_18 : decode cX12_year 18 = .ok (.aload_n 0, 1) := by decide +kernel
theorem dX12_year_19 : decode cX12_year 19 = .ok (.getfield 90, 3) := by decide +kernel
theorem dX12_year_22 : decode cX12_year 22 = .ok (.iload_n 1, 1) := by decide +kernel
theorem dX12_year_23 : decode cX12_year 23 = .ok (.iaload, 1) := by decide +kernel
theorem dX12_year_24 : decode cX12_year 24 = .ok (.aload_n 0, 1) := by decide +kernel
theorem dX12_year_25 : decode cX12_year 25 = .ok (.getfield 84, 3) := by decide +kernel
theorem dX12_year_28 : decode cX12_year 28 = .ok (.iload_n 1, 1) := by decide +kernel
theorem dX12_year_29 : decode cX12_year 29 = .ok (.iaload, 1) := by decide +kernel
theorem dX12_year_30 : decode cX12_year 30 = .ok (.invokestatic 188, 3) := by decide +kernel
theorem dX12_year_33 : decode cX12_year 33 = .ok (.ifCond .eq 12, 3) := by decide +kernel
theorem dX12_year_36 : decode cX12_year 36 = .ok (.iload_n 3, 1) := by decide +kernel
theorem dX12_year_37 : decode cX12_year 37 = .ok (.iconst 0, 1) := by decide +kernel
theorem dX12_year_38 : decode cX12_year 38 = .ok (.iconst 2, 1) := by decide +kernel
theorem dX12_year_39 : decode cX12_year 39 = .ok (.invokestatic 188, 3) := by decide +kernel
theorem dX12_year_42 : decode cX12_year 42 = .ok (.ifCond .ne 6, 3) := by decide +kernel
theorem dX12_year_45 : decode cX12_year 45 = .ok (.bipush (-9), 2) := by decide +kernel
theorem dX12_year_47 : decode cX12_year 47 = .ok (.ireturn, 1) := by decide +kernel
theorem dX12_year_48 : decode cX12_year 48 = .ok (.sipush 200, 3) := by decide +kernel
theorem dX12_year_51 : decode cX12_year 51 = .ok (.iload_n 1, 1) := by decide +kernel
theorem dX12_year_52 : decode cX12_year 52 = .ok (.imul, 1) := by decide +kernel
theorem dX12_year_53 : decode cX12_year 53 = .ok (.iload_n 2, 1) := by decide +kernel
theorem dX12_year_54 : decode cX12_year 54 = .ok (.iadd, 1) := by decide +kernel
theorem dX12_year_55 : decode cX12_year 55 = .ok (.sipush 1600, 3) := by decide +kernel
theorem dX12_year_58 : decode cX12_year 58 = .ok (.isub, 1) := by decide +kernel
theorem dX12_year_59 : decode cX12_year 59 = .ok (.istore 4, 2) := by decide +kernel
theorem dX12_year_61 : decode cX12_year 61 = .ok (.iload_n 3, 1) := by decide +kernel
theorem dX12_year_62 : decode cX12_year 62 = .ok (.ifCond .ne 13, 3) := by decide +kernel
theorem dX12_year_65 : decode cX12_year 65 = .ok (.aload_n 0, 1) := by decide +kernel
theorem dX12_year_66 : decode cX12_year 66 = .ok (.getfield 93, 3) := by decide +kernel
theorem dX12_year_69 : decode cX12_year 69 = .ok (.iload 4, 2) := by decide +kernel
theorem dX12_year_71 : decode cX12_year 71 = .ok (.iaload, 1) := by decide +kernel
theorem dX12_year_72 : decode cX12_year 72 = .ok (.goto 33, 3) := by decide +kernel
theorem dX12_year_75 : decode cX12_year 75 = .ok (.iload_n 3, 1) := by decide +kernel
theorem dX12_year_76 : decode cX12_year 76 = .ok (.iconst 1, 1) := by decide +kernel
theorem dX12_year_77 : decode cX12_year 77 = .ok (.if_icmp .ne 21, 3) := by decide +kernel
theorem dX12_year_80 : decode cX12_year 80 = .ok (.aload_n 0, 1) := by decide +kernel
theorem dX12_year_81 : decode cX12_year 81 = .ok (.getfield 96, 3) := by decide +kernel
theorem dX12_year_84 : decode cX12_year 84 = .ok (.iload 4, 2) := by decide +kernel
theorem dX12_year_86 : decode cX12_year 86 = .ok (.baload, 1) := by decide +kernel
theorem dX12_year_87 : decode cX12_year 87 = .ok (.ifCond .eq 7, 3) := by decide +kernel
theorem dX12_year_90 : decode cX12_year 90 = .ok (.iconst 1, 1) := by decide +kernel
theorem dX12_year_91 : decode cX12_year 91 = .ok (.goto 14, 3) := by decide +kernel
theorem dX12_year_94 : decode cX12_year 94 = .ok (.iconst 0, 1) := by decide +kernel
theorem dX12_year_95 : decode cX12_year 95 = .ok (.goto 10, 3) := by decide +kernel
theorem dX12_year_98 : decode cX12_year 98 = .ok (.aload_n 0, 1) := by decide +kernel
theorem dX12_year_99 : decode cX12_year 99 = .ok (.getfield 100, 3) := by decide +kernel
theorem dX12_year_102 : decode cX12_year 102 = .ok (.iload 4, 2) := by decide +kernel
theorem dX12_year_104 : decode cX12_year 104 = .ok (.iaload, 1) := by decide +kernel
theorem dX12_year_105 : decode cX12_year 105 = .ok (.ireturn, 1) := by decide +kernel
theorem dX12_about_0 : decode cX12_about 0 = .ok (.aload_n 0, 1) := by decide +kernel
theorem dX12_about_1 : decode cX12_about 1 = .ok (.iload_n 1, 1) := by decide +kernel
theorem dX12_about_2 : decode cX12_about 2 = .ok (.invokevirtual 263, 3) := by decide +kernel
theorem dX12_about_5 : decode cX12_about 5 = .ok (.ifCond .ne 5, 3) := by decide +kernel
theorem dX12_about_8 : decode cX12_about 8 = .ok (.iconst (-1), 1) := by decide +kernel
theorem dX12_about_9 : decode cX12_about 9 = .ok (.ireturn, 1) := by decide +kernel
theorem dX12_about_10 : decode cX12_about 10 = .ok (.iload_n 2, 1) := by decide +kernel
theorem dX12_about_11 : decode cX12_about 11 = .ok (.tableswitch 79 0 5 #[37, 44, 51, 58, 65, 72], 37) := by decide +kernel
theorem dX12_about_48 : decode cX12_about 48 = .ok (.aload_n 0, 1) := by decide +kernel
theorem dX12_about_49 : decode cX12_about 49 = .ok (.getfield 66, 3) := by decide +kernel
theorem dX12_about_52 : decode cX12_about 52 = .ok (.iload_n 1, 1) := by decide +kernel
theorem dX12_about_53 : decode cX12_about 53 = .ok (.iaload, 1) := by decide +kernel
theorem dX12_about_54 : decode cX12_about 54 = .ok (.ireturn, 1) := by decide +kernel
theorem dX12_about_55 : decode cX12_about 55 = .ok (.aload_n 0, 1) := by decide +kernel
theorem dX12_about_56 : decode cX12_about 56 = .ok (.getfield 69, 3) := by decide +kernel
theorem dX12_about_59 : decode cX12_about 59 = .ok (.iload_n 1, 1) := by decide +kernel
theorem dX12_about_60 : decode cX12_about 60 = .ok (.iaload, 1) := by decide +kernel
theorem dX12_about_61 : decode cX12_about 61 = .ok (.ireturn, 1) := by decide +kernel
theorem dX12_about_62 : decode cX12_about 62 = .ok (.aload_n 0, 1) := by decide +kernel
theorem dX12_about_63 : decode cX12_about 63 = .ok (.getfield 72, 3) := by decide +kernel
theorem dX12_about_66 : decode cX12_about 66 = .ok (.iload_n 1, 1) := by decide +kernel
theorem dX12_about_67 : decode cX12_about 67 = .ok (.iaload, 1) := by decide +kernel
theorem dX12_about_68 : decode cX12_about 68 = .ok (.ireturn, 1) := by decide +kernel
theorem dX12_about_69 : decode cX12_about 69 = .ok (.aload_n 0, 1) := by decide +kernel
theorem dX12_about_70 : decode cX12_about 70 = .ok (.getfield 75, 3) := by decide +kernel
theorem dX12_about_73 : decode cX12_about 73 = .ok (.iload_n 1, 1) := by decide +kernel
theorem dX12_about_74 : decode cX12_about 74 = .ok (.iaload, 1) := by decide +kernel
theorem dX12_about_75 : decode cX12_about 75 = .ok (.ireturn, 1) := by decide +kernel
theorem dX12_about_76 : decode cX12_about 76 = .ok (.aload_n 0, 1) := by decide +kernel
theorem dX12_about_77 : decode cX12_about 77 = .ok (.getfield 78, 3) := by decide +kernel
theorem dX12_about_80 : decode cX12_about 80 = .ok (.iload_n 1, 1) := by decide +kernel
theorem dX12_about_81 : decode cX12_about 81 = .ok (.iaload, 1) := by decide +kernel
theorem dX12_about_82 : decode cX12_about 82 = .ok (.ireturn, 1) := by decide +kernel
theorem dX12_about_83 : decode cX12_about 83 = .ok (.aload_n 0, 1) := by decide +kernel
theorem dX12_about_84 : decode cX12_about 84 = .ok (.getfield 81, 3) := by decide +kernel
theorem dX12_about_87 : decode cX12_about 87 = .ok (.iload_n 1, 1) := by decide +kernel
theorem dX12_about_88 : decode cX12_about 88 = .ok (.iaload, 1) := by decide +kernel
theorem dX12_about_89 : decode cX12_about 89 = .ok (.ireturn, 1) := by decide +kernel
theorem dX12_about_90 : decode cX12_about 90 = .ok (.iconst (-1), 1) := by decide +kernel
theorem dX12_about_91 : decode cX12_about 91 = .ok (.ireturn, 1) := by decide +kernel
theorem dX12_lying_0 : decode cX12_lying 0 = .ok (.iconst 0, 1) := by decide +kernel
theorem dX12_lying_1 : decode cX12_lying 1 = .ok (.istore_n 2, 1) := by decide +kernel
theorem dX12_lying_2 : decode cX12_lying 2 = .ok (.iconst 0, 1) := by decide +kernel
theorem dX12_lying_3 : decode cX12_lying 3 = .ok (.istore_n 3, 1) := by decide +kernel
theorem dX12_lying_4 : decode cX12_lying 4 = .ok (.iload_n 3, 1) := by decide +kernel
theorem dX12_lying_5 : decode cX12_lying 5 = .ok (.aload_n 0, 1) := by decide +kernel
theorem dX12_lying_6 : decode cX12_lying 6 = .ok (.getfield 271, 3) := by decide +kernel
theorem dX12_lying_9 : decode cX12_lying 9 = .ok (.if_icmp .ge 36, 3) := by decide +kernel
theorem dX12_lying_12 : decode cX12_lying 12 = .ok (.iload_n 2, 1) := by decide +kernel
theorem dX12_lying_13 : decode cX12_lying 13 = .ok (.aload_n 0, 1) := by decide +kernel
theorem dX12_lying_14 : decode cX12_lying 14 = .ok (.getfield 115, 3) := by decide +kernel
theorem dX12_lying_17 : decode cX12_lying 17 = .ok (.iload_n 3, 1) := by decide +kernel
theorem dX12_lying_18 : decode cX12_lying 18 = .ok (.iaload, 1) := by decide +kernel
theorem dX12_lying_19 : decode cX12_lying 19 = .ok (.ifCond .ne 17, 3) := by decide +kernel
theorem dX12_lying_22 : decode cX12_lying 22 = .ok (.aload_n 0, 1) := by decide +kernel
theorem dX12_lying_23 : decode cX12_lying 23 = .ok (.getfield 118, 3) := by decide +kernel
theorem dX12_lying_26 : decode cX12_lying 26 = .ok (.iload_n 3, 1) := by decide +kernel
theorem dX12_lying_27 : decode cX12_lying 27 = .ok (.iaload, 1) := by decide +kernel
theorem dX12_lying_28 : decode cX12_lying 28 = .ok (.iload_n 1, 1) := by decide +kernel
theorem dX12_lying_29 : decode cX12_lying 29 = .ok (.if_icmp .ne 7, 3) := by decide +kernel
theorem dX12_lying_32 : decode cX12_lying 32 = .ok (.iconst 1, 1) := by decide +kernel
theorem dX12_lying_33 : decode cX12_lying 33 = .ok (.goto 4, 3) := by decide +kernel
theorem dX12_lying_36 : decode cX12_lying 36 = .ok (.iconst 0, 1) := by decide +kernel
theorem dX12_lying_37 : decode cX12_lying 37 = .ok (.iadd, 1) := by decide +kernel
theorem dX12_lying_38 : decode cX12_lying 38 = .ok (.istore_n 2, 1) := by decide +kernel
theorem dX12_lying_39 : decode cX12_lying 39 = .ok (.iinc 3 1, 3) := by decide +kernel
theorem dX12_lying_42 : decode cX12_lying 42 = .ok (.goto (-38), 3) := by decide +kernel
theorem dX12_lying_45 : decode cX12_lying 45 = .ok (.iload_n 2, 1) := by decide +kernel
theorem dX12_lying_46 : decode cX12_lying 46 = .ok (.ireturn, 1) := by decide +kernel
theorem dX12_hasPlace_0 : decode cX12_hasPlace 0 = .ok (.aload_n 0, 1) := by decide +kernel
theorem dX12_hasPlace_1 : decode cX12_hasPlace 1 = .ok (.iload_n 1, 1) := by decide +kernel
theorem dX12_hasPlace_2 : decode cX12_hasPlace 2 = .ok (.invokevirtual 274, 3) := by decide +kernel
theorem dX12_hasPlace_5 : decode cX12_hasPlace 5 = .ok (.aload_n 0, 1) := by decide +kernel
theorem dX12_hasPlace_6 : decode cX12_hasPlace 6 = .ok (.getfield 57, 3) := by decide +kernel
theorem dX12_hasPlace_9 : decode cX12_hasPlace 9 = .ok (.bipush 8, 2) := by decide +kernel
theorem dX12_hasPlace_11 : decode cX12_hasPlace 11 = .ok (.iload_n 1, 1) := by decide +kernel
theorem dX12_hasPlace_12 : decode cX12_hasPlace 12 = .ok (.imul, 1) := by decide +kernel
theorem dX12_hasPlace_13 : decode cX12_hasPlace 13 = .ok (.bipush 7, 2) := by decide +kernel
theorem dX12_hasPlace_15 : decode cX12_hasPlace 15 = .ok (.iadd, 1) := by decide +kernel
theorem dX12_hasPlace_16 : decode cX12_hasPlace 16 = .ok (.iaload, 1) := by decide +kernel
theorem dX12_hasPlace_17 : decode cX12_hasPlace 17 = .ok (.if_icmp .ge 7, 3) := by decide +kernel
theorem dX12_hasPlace_20 : decode cX12_hasPlace 20 = .ok (.iconst 1, 1) := by decide +kernel
theorem dX12_hasPlace_21 : decode cX12_hasPlace 21 = .ok (.goto 4, 3) := by decide +kernel
theorem dX12_hasPlace_24 : decode cX12_hasPlace 24 = .ok (.iconst 0, 1) := by decide +kernel
theorem dX12_hasPlace_25 : decode cX12_hasPlace 25 = .ok (.ireturn, 1) := by decide +kernel
theorem dX12_placeFor_0 : decode cX12_placeFor 0 = .ok (.aload_n 0, 1) := by decide +kernel
theorem dX12_placeFor_1 : decode cX12_placeFor 1 = .ok (.iload_n 1, 1) := by decide +kernel
theorem dX12_placeFor_2 : decode cX12_placeFor 2 = .ok (.invokevirtual 277, 3) := by decide +kernel
theorem dX12_placeFor_5 : decode cX12_placeFor 5 = .ok (.ifCond .eq 5, 3) := by decide +kernel
theorem dX12_placeFor_8 : decode cX12_placeFor 8 = .ok (.iload_n 1, 1) := by decide +kernel
theorem dX12_placeFor_9 : decode cX12_placeFor 9 = .ok (.ireturn, 1) := by decide +kernel
theorem dX12_placeFor_10 : decode cX12_placeFor 10 = .ok (.iconst 1, 1) := by decide +kernel
theorem dX12_placeFor_11 : decode cX12_placeFor 11 = .ok (.istore_n 3, 1) := by decide +kernel
theorem dX12_placeFor_12 : decode cX12_placeFor 12 = .ok (.iload_n 3, 1) := by decide +kernel
theorem dX12_placeFor_13 : decode cX12_placeFor 13 = .ok (.iconst 4, 1) := by decide +kernel
theorem dX12_placeFor_14 : decode cX12_placeFor 14 = .ok (.if_icmp .ge 83, 3) := by decide +kernel
theorem dX12_placeFor_17 : decode cX12_placeFor 17 = .ok (.iload_n 1, 1) := by decide +kernel
theorem dX12_placeFor_18 : decode cX12_placeFor 18 = .ok (.iload_n 3, 1) := by decide +kernel
theorem dX12_placeFor_19 : decode cX12_placeFor 19 = .ok (.iadd, 1) := by decide +kernel
theorem dX12_placeFor_20 : decode cX12_placeFor 20 = .ok (.iconst 4, 1) := by decide +kernel
theorem dX12_placeFor_21 : decode cX12_placeFor 21 = .ok (.irem, 1) := by decide +kernel
theorem dX12_placeFor_22 : decode cX12_placeFor 22 = .ok (.istore 4, 2) := by decide +kernel
theorem dX12_placeFor_24 : decode cX12_placeFor 24 = .ok (.aload_n 0, 1) := by decide +kernel
theorem dX12_placeFor_25 : decode cX12_placeFor 25 = .ok (.iload 4, 2) := by decide +kernel
theorem dX12_placeFor_27 : decode cX12_placeFor 27 = .ok (.invokevirtual 277, 3) := by decide +kernel
theorem dX12_placeFor_30 : decode cX12_placeFor 30 = .ok (.ifCond .ne 6, 3) := by decide +kernel
theorem dX12_placeFor_33 : decode cX12_placeFor 33 = .ok (.goto 58, 3) := by decide +kernel
theorem dX12_placeFor_36 : decode cX12_placeFor 36 = .ok (.aload_n 0, 1) := by decide +kernel
theorem dX12_placeFor_37 : decode cX12_placeFor 37 = .ok (.getfield 57, 3) := by decide +kernel
theorem dX12_placeFor_40 : decode cX12_placeFor 40 = .ok (.bipush 8, 2) := by decide +kernel
theorem dX12_placeFor_42 : decode cX12_placeFor 42 = .ok (.iload 4, 2) := by decide +kernel
theorem dX12_placeFor_44 : decode cX12_placeFor 44 = .ok (.imul, 1) := by decide +kernel
theorem dX12_placeFor_45 : decode cX12_placeFor 45 = .ok (.iconst 5, 1) := by decide +kernel
theorem dX12_placeFor_46 : decode cX12_placeFor 46 = .ok (.iadd, 1) := by decide +kernel
theorem dX12_placeFor_47 : decode cX12_placeFor 47 = .ok (.iaload, 1) := by decide +kernel
theorem dX12_placeFor_48 : decode cX12_placeFor 48 = .ok (.iconst (-1), 1) := by decide +kernel
theorem dX12_placeFor_49 : decode cX12_placeFor 49 = .ok (.if_icmp .eq 27, 3) := by decide +kernel
theorem dX12_placeFor_52 : decode cX12_placeFor 52 = .ok (.aload_n 0, 1) := by decide +kernel
theorem dX12_placeFor_53 : decode cX12_placeFor 53 = .ok (.getfield 57, 3) := by decide +kernel
theorem dX12_placeFor_56 : decode cX12_placeFor 56 = .ok (.bipush 8, 2) := by decide +kernel
theorem dX12_placeFor_58 : decode cX12_placeFor 58 = .ok (.iload 4, 2) := by decide +kernel
theorem dX12_placeFor_60 : decode cX12_placeFor 60 = .ok (.imul, 1) := by decide +kernel
theorem dX12_placeFor_61 : decode cX12_placeFor 61 = .ok (.bipush 6, 2) := by decide +kernel
theorem dX12_placeFor_63 : decode cX12_placeFor 63 = .ok (.iadd, 1) := by decide +kernel
theorem dX12_placeFor_64 : decode cX12_placeFor 64 = .ok (.iaload, 1) := by decide +kernel
theorem dX12_placeFor_65 : decode cX12_placeFor 65 = .ok (.ifCond .eq 7, 3) := by decide +kernel
theorem dX12_placeFor_68 : decode cX12_placeFor 68 = .ok (.iload_n 2, 1) := by decide +kernel
theorem dX12_placeFor_69 : decode cX12_placeFor 69 = .ok (.ifCond .eq 7, 3) := by decide +kernel
theorem dX12_placeFor_72 : decode cX12_placeFor 72 = .ok (.iconst 1, 1) := by decide +kernel
theorem dX12_placeFor_73 : decode cX12_placeFor 73 = .ok (.goto 4, 3) := by decide +kernel
theorem dX12_placeFor_76 : decode cX12_placeFor 76 = .ok (.iconst 0, 1) := by decide +kernel
theorem dX12_placeFor_77 : decode cX12_placeFor 77 = .ok (.istore 5, 2) := by decide +kernel
theorem dX12_placeFor_79 : decode cX12_placeFor 79 = .ok (.iload 5, 2) := by decide +kernel
theorem dX12_placeFor_81 : decode cX12_placeFor 81 = .ok (.ifCond .eq 8, 3) := by decide +kernel
theorem dX12_placeFor_84 : decode cX12_placeFor 84 = .ok (.iload 4, 2) := by decide +kernel
theorem dX12_placeFor_86 : decode cX12_placeFor 86 = .ok (.goto 4, 3) := by decide +kernel
theorem dX12_placeFor_89 : decode cX12_placeFor 89 = .ok (.iconst (-1), 1) := by decide +kernel
theorem dX12_placeFor_90 : decode cX12_placeFor 90 = .ok (.ireturn, 1) := by decide +kernel
theorem dX12_placeFor_91 : decode cX12_placeFor 91 = .ok (.iinc 3 1, 3) := by decide +kernel
theorem dX12_placeFor_94 : decode cX12_placeFor 94 = .ok (.goto (-82), 3) := by decide +kernel
theorem dX12_placeFor_97 : decode cX12_placeFor 97 = .ok (.iconst (-1), 1) := by decide +kernel
theorem dX12_placeFor_98 : decode cX12_placeFor 98 = .ok (.ireturn, 1) := by decide +kernel
theorem dX12_charge_0 : decode cX12_charge 0 = .ok (.iload_n 1, 1) := by decide +kernel
theorem dX12_charge_1 : decode cX12_charge 1 = .ok (.invokestatic 195, 3) := by decide +kernel
theorem dX12_charge_4 : decode cX12_charge 4 = .ok (.ifCond .eq 22, 3) := by decide +kernel
theorem dX12_charge_7 : decode cX12_charge 7 = .ok (.iload_n 2, 1) := by decide +kernel
theorem dX12_charge_8 : decode cX12_charge 8 = .ok (.iconst 0, 1) := by decide +kernel
theorem dX12_charge_9 : decode cX12_charge 9 = .ok (.iconst 2, 1) := by decide +kernel
theorem dX12_charge_10 : decode cX12_charge 10 = .ok (.invokestatic 188, 3) := by decide +kernel
theorem dX12_charge_13 : decode cX12_charge 13 = .ok (.ifCond .eq 13, 3) := by decide +kernel
theorem dX12_charge_16 : decode cX12_charge 16 = .ok (.iload_n 3, 1) := by decide +kernel
theorem dX12_charge_17 : decode cX12_charge 17 = .ok (.iconst 0, 1) := by decide +kernel
theorem dX12_charge_18 : decode cX12_charge 18 = .ok (.bipush 23, 2) := by decide +kernel
theorem dX12_charge_20 : decode cX12_charge 20 = .ok (.invokestatic 188, 3) := by decide +kernel
theorem dX12_charge_23 : decode cX12_charge 23 = .ok (.ifCond .ne 6, 3) := by decide +kernel
theorem dX12_charge_26 : decode cX12_charge 26 = .ok (.bipush (-2), 2) := by decide +kernel
theorem dX12_charge_28 : decode cX12_charge 28 = .ok (.ireturn, 1) := by decide +kernel
theorem dX12_charge_29 : decode cX12_charge 29 = .ok (.aload_n 0, 1) := by decide +kernel
theorem dX12_charge_30 : decode cX12_charge 30 = .ok (.getfield 271, 3) := by decide +kernel
theorem dX12_charge_33 : decode cX12_charge 33 = .ok (.bipush 100, 2) := by decide +kernel
theorem dX12_charge_35 : decode cX12_charge 35 = .ok (.if_icmp .ne 6, 3) := by decide +kernel
theorem dX12_charge_38 : decode cX12_charge 38 = .ok (.bipush (-3), 2) := by decide +kernel
theorem dX12_charge_40 : decode cX12_charge 40 = .ok (.ireturn, 1) := by decide +kernel
theorem dX12_charge_41 : decode cX12_charge 41 = .ok (.aload_n 0, 1) := by decide +kernel
theorem dX12_charge_42 : decode cX12_charge 42 = .ok (.getfield 271, 3) := by decide +kernel
theorem dX12_charge_45 : decode cX12_charge 45 = .ok (.istore 5, 2) := by decide +kernel
theorem dX12_charge_47 : decode cX12_charge 47 = .ok (.aload_n 0, 1) := by decide +kernel
theorem dX12_charge_48 : decode cX12_charge 48 = .ok (.getfield 106, 3) := by decide +kernel
theorem dX12_charge_51 : decode cX12_charge 51 = .ok (.iload 5, 2) := by decide +kernel
theorem dX12_charge_53 : decode cX12_charge 53 = .ok (.iload_n 1, 1) := by decide +kernel
theorem dX12_charge_54 : decode cX12_charge 54 = .ok (.iastore, 1) := by decide +kernel
theorem dX12_charge_55 : decode cX12_charge 55 = .ok (.aload_n 0, 1) := by decide +kernel
theorem dX12_charge_56 : decode cX12_charge 56 = .ok (.getfield 109, 3) := by decide +kernel
theorem dX12_charge_59 : decode cX12_charge 59 = .ok (.iload 5, 2) := by decide +kernel
theorem dX12_charge_61 : decode cX12_charge 61 = .ok (.iload_n 2, 1) := by decide +kernel
theorem dX12_charge_62 : decode cX12_charge 62 = .ok (.iastore, 1) := by decide +kernel
theorem dX12_charge_63 : decode cX12_charge 63 = .ok (.aload_n 0, 1) := by decide +kernel
theorem dX12_charge_64 : decode cX12_charge 64 = .ok (.getfield 112, 3) := by decide +kernel
theorem dX12_charge_67 : decode cX12_charge 67 = .ok (.iload 5, 2) := by decide +kernel
theorem dX12_charge_69 : decode cX12_charge 69 = .ok (.iload_n 3, 1) := by decide +kernel
theorem dX12_charge_70 : decode cX12_charge 70 = .ok (.iastore, 1) := by decide +kernel
theorem dX12_charge_71 : decode cX12_charge 71 = .ok (.aload_n 0, 1) := by decide +kernel
theorem dX12_charge_72 : decode cX12_charge 72 = .ok (.getfield 118, 3) := by decide +kernel
theorem dX12_charge_75 : decode cX12_charge 75 = .ok (.iload 5, 2) := by decide +kernel
theorem dX12_charge_77 : decode cX12_charge 77 = .ok (.iconst (-1), 1) := by decide +kernel
theorem dX12_charge_78 : decode cX12_charge 78 = .ok (.iastore, 1) := by decide +kernel
theorem dX12_charge_79 : decode cX12_charge 79 = .ok (.aload_n 0, 1) := by decide +kernel
theorem dX12_charge_80 : decode cX12_charge 80 = .ok (.iload_n 1, 1) := by decide +kernel
theorem dX12_charge_81 : decode cX12_charge 81 = .ok (.iload_n 2, 1) := by decide +kernel
theorem dX12_charge_82 : decode cX12_charge 82 = .ok (.iload_n 3, 1) := by decide +kernel
theorem dX12_charge_83 : decode cX12_charge 83 = .ok (.iload 4, 2) := by decide +kernel
theorem dX12_charge_85 : decode cX12_charge 85 = .ok (.invokevirtual 256, 3) := by decide +kernel
theorem dX12_charge_88 : decode cX12_charge 88 = .ok (.ifCond .ne 24, 3) := by decide +kernel
theorem dX12_charge_91 : decode cX12_charge 91 = .ok (.aload_n 0, 1) := by decide +kernel
theorem dX12_charge_92 : decode cX12_charge 92 = .ok (.getfield 115, 3) := by decide +kernel
theorem dX12_charge_95 : decode cX12_charge 95 = .ok (.iload 5, 2) := by decide +kernel
theorem dX12_charge_97 : decode cX12_charge 97 = .ok (.iconst 1, 1) := by decide +kernel
theorem dX12_charge_98 : decode cX12_charge 98 = .ok (.iastore, 1) := by decide +kernel
theorem dX12_charge_99 : decode cX12_charge 99 = .ok (.aload_n 0, 1) := by decide +kernel
theorem dX12_charge_100 : decode cX12_charge 100 = .ok (.getfield 103, 3) := by decide +kernel
theorem dX12_charge_103 : decode cX12_charge 103 = .ok (.iload_n 1, 1) := by decide +kernel
theorem dX12_charge_104 : decode cX12_charge 104 = .ok (.dup2, 1) := by decide +kernel
theorem dX12_charge_105 : decode cX12_charge 105 = .ok (.iaload, 1) := by decide +kernel
theorem dX12_charge_106 : decode cX12_charge 106 = .ok (.iconst 5, 1) := by decide +kernel
theorem dX12_charge_107 : decode cX12_charge 107 = .ok (.isub, 1) := by decide +kernel
theorem dX12_charge_108 : decode cX12_charge 108 = .ok (.iastore, 1) := by decide +kernel
theorem dX12_charge_109 : decode cX12_charge 109 = .ok (.goto 40, 3) := by decide +kernel
theorem dX12_charge_112 : decode cX12_charge 112 = .ok (.aload_n 0, 1) := by decide +kernel
theorem dX12_charge_113 : decode cX12_charge 113 = .ok (.getfield 118, 3) := by decide +kernel
theorem dX12_charge_116 : decode cX12_charge 116 = .ok (.iload 5, 2) := by decide +kernel
theorem dX12_charge_118 : decode cX12_charge 118 = .ok (.aload_n 0, 1) := by decide +kernel
theorem dX12_charge_119 : decode cX12_charge 119 = .ok (.iload_n 1, 1) := by decide +kernel
theorem dX12_charge_120 : decode cX12_charge 120 = .ok (.iload 4, 2) := by decide +kernel
theorem dX12_charge_122 : decode cX12_charge 122 = .ok (.invokevirtual 280, 3) := by decide +kernel
theorem dX12_charge_125 : decode cX12_charge 125 = .ok (.iastore, 1) := by decide +kernel
theorem dX12_charge_126 : decode cX12_charge 126 = .ok (.aload_n 0, 1) := by decide +kernel
theorem dX12_charge_127 : decode cX12_charge 127 = .ok (.getfield 115, 3) := by decide +kernel
theorem dX12_charge_130 : decode cX12_charge 130 = .ok (.iload 5, 2) := by decide +kernel
theorem dX12_charge_132 : decode cX12_charge 132 = .ok (.aload_n 0, 1) := by decide +kernel
theorem dX12_charge_133 : decode cX12_charge 133 = .ok (.getfield 118, 3) := by decide +kernel
theorem dX12_charge_136 : decode cX12_charge 136 = .ok (.iload 5, 2) := by decide +kernel
theorem dX12_charge_138 : decode cX12_charge 138 = .ok (.iaload, 1) := by decide +kernel
theorem dX12_charge_139 : decode cX12_charge 139 = .ok (.iconst (-1), 1) := by decide +kernel
theorem dX12_charge_140 : decode cX12_charge 140 = .ok (.if_icmp .ne 7, 3) := by decide +kernel
theorem dX12_charge_143 : decode cX12_charge 143 = .ok (.iconst 2, 1) := by decide +kernel
theorem dX12_charge_144 : decode cX12_charge 144 = .ok (.goto 4, 3) := by decide +kernel
theorem dX12_charge_147 : decode cX12_charge 147 = .ok (.iconst 0, 1) := by decide +kernel
theorem dX12_charge_148 : decode cX12_charge 148 = .ok (.iastore, 1) := by decide +kernel
theorem dX12_charge_149 : decode cX12_charge 149 = .ok (.aload_n 0, 1) := by decide +kernel
theorem dX12_charge_150 : decode cX12_charge 150 = .ok (.dup, 1) := by decide +kernel
theorem dX12_charge_151 : decode cX12_charge 151 = .ok (.getfield 271, 3) := by decide +kernel
theorem dX12_charge_154 : decode cX12_charge 154 = .ok (.iconst 1, 1) := by decide +kernel
theorem dX12_charge_155 : decode cX12_charge 155 = .ok (.iadd, 1) := by decide +kernel
theorem dX12_charge_156 : decode cX12_charge 156 = .ok (.putfield 271, 3) := by decide +kernel
theorem dX12_charge_159 : decode cX12_charge 159 = .ok (.iload 5, 2) := by decide +kernel
theorem dX12_charge_161 : decode cX12_charge 161 = .ok (.ireturn, 1) := by decide +kernel
theorem dX12_charged_0 : decode cX12_charged 0 = .ok (.iload_n 1, 1) := by decide +kernel
theorem dX12_charged_1 : decode cX12_charged 1 = .ok (.iconst 0, 1) := by decide +kernel
theorem dX12_charged_2 : decode cX12_charged 2 = .ok (.aload_n 0, 1) := by decide +kernel
theorem dX12_charged_3 : decode cX12_charged 3 = .ok (.getfield 271, 3) := by decide +kernel
theorem dX12_charged_6 : decode cX12_charged 6 = .ok (.iconst 1, 1) := by decide +kernel
theorem dX12_charged_7 : decode cX12_charged 7 = .ok (.isub, 1) := by decide +kernel
theorem dX12_charged_8 : decode cX12_charged 8 = .ok (.invokestatic 188, 3) := by decide +kernel
theorem dX12_charged_11 : decode cX12_charged 11 = .ok (.ifCond .ne 5, 3) := by decide +kernel
theorem dX12_charged_14 : decode cX12_charged 14 = .ok (.iconst (-1), 1) := by decide +kernel
theorem dX12_charged_15 : decode cX12_charged 15 = .ok (.ireturn, 1) := by decide +kernel
theorem dX12_charged_16 : decode cX12_charged 16 = .ok (.iload_n 2, 1) := by decide +kernel
theorem dX12_charged_17 : decode cX12_charged 17 = .ok (.tableswitch 70 0 4 #[35, 42, 49, 56, 63], 35) := by decide +kernel
theorem dX12_charged_52 : decode cX12_charged 52 = .ok (.aload_n 0, 1) := by decide +kernel
theorem dX12_charged_53 : decode cX12_charged 53 = .ok (.getfield 106, 3) := by decide +kernel
theorem dX12_charged_56 : decode cX12_charged 56 = .ok (.iload_n 1, 1) := by decide +kernel
theorem dX12_charged_57 : decode cX12_charged 57 = .ok (.iaload, 1) := by decide +kernel
theorem dX12_charged_58 : decode cX12_charged 58 = .ok (.ireturn, 1) := by decide +kernel
theorem dX12_charged_59 : decode cX12_charged 59 = .ok (.aload_n 0, 1) := by decide +kernel
theorem dX12_charged_60 : decode cX12_charged 60 = .ok (.getfield 109, 3) := by decide +kernel
theorem dX12_charged_63 : decode cX12_charged 63 = .ok (.iload_n 1, 1) := by decide +kernel
theorem dX12_charged_64 : decode cX12_charged 64 = .ok (.iaload, 1) := by decide +kernel
theorem dX12_charged_65 : decode cX12_charged 65 = .ok (.ireturn, 1) := by decide +kernel
theorem dX12_charged_66 : decode cX12_charged 66 = .ok (.aload_n 0, 1) := by decide +kernel
theorem dX12_charged_67 : decode cX12_charged 67 = .ok (.getfield 112, 3) := by decide +kernel
theorem dX12_charged_70 : decode cX12_charged 70 = .ok (.iload_n 1, 1) := by decide +kernel
theorem dX12_charged_71 : decode cX12_charged 71 = .ok (.iaload, 1) := by decide +kernel
theorem dX12_charged_72 : decode cX12_charged 72 = .ok (.ireturn, 1) := by decide +kernel
theorem dX12_charged_73 : decode cX12_charged 73 = .ok (.aload_n 0, 1) := by decide +kernel
theorem dX12_charged_74 : decode cX12_charged 74 = .ok (.getfield 115, 3) := by decide +kernel
theorem dX12_charged_77 : decode cX12_charged 77 = .ok (.iload_n 1, 1) := by decide +kernel
theorem dX12_charged_78 : decode cX12_charged 78 = .ok (.iaload, 1) := by decide +kernel
theorem dX12_charged_79 : decode cX12_charged 79 = .ok (.ireturn, 1) := by decide +kernel
theorem dX12_charged_80 : decode cX12_charged 80 = .ok (.aload_n 0, 1) := by decide +kernel
theorem dX12_charged_81 : decode cX12_charged 81 = .ok (.getfield 118, 3) := by decide +kernel
theorem dX12_charged_84 : decode cX12_charged 84 = .ok (.iload_n 1, 1) := by decide +kernel
theorem dX12_charged_85 : decode cX12_charged 85 = .ok (.iaload, 1) := by decide +kernel
theorem dX12_charged_86 : decode cX12_charged 86 = .ok (.ireturn, 1) := by decide +kernel
theorem dX12_charged_87 : decode cX12_charged 87 = .ok (.iconst (-1), 1) := by decide +kernel
theorem dX12_charged_88 : decode cX12_charged 88 = .ok (.ireturn, 1) := by decide +kernel
theorem dX12_morning_0 : decode cX12_morning 0 = .ok (.iconst 0, 1) := by decide +kernel
theorem dX12_morning_1 : decode cX12_morning 1 = .ok (.istore_n 1, 1) := by decide +kernel
theorem dX12_morning_2 : decode cX12_morning 2 = .ok (.iconst 0, 1) := by decide +kernel
theorem dX12_morning_3 : decode cX12_morning 3 = .ok (.istore_n 2, 1) := by decide +kernel
theorem dX12_morning_4 : decode cX12_morning 4 = .ok (.iload_n 2, 1) := by decide +kernel
theorem dX12_morning_5 : decode cX12_morning 5 = .ok (.aload_n 0, 1) := by decide +kernel
theorem dX12_morning_6 : decode cX12_morning 6 = .ok (.getfield 271, 3) := by decide +kernel
theorem dX12_morning_9 : decode cX12_morning 9 = .ok (.if_icmp .ge 31, 3) := by decide +kernel
theorem dX12_morning_12 : decode cX12_morning 12 = .ok (.aload_n 0, 1) := by decide +kernel
theorem dX12_morning_13 : decode cX12_morning 13 = .ok (.getfield 115, 3) := by decide +kernel
theorem dX12_morning_16 : decode cX12_morning 16 = .ok (.iload_n 2, 1) := by decide +kernel
theorem dX12_morning_17 : decode cX12_morning 17 = .ok (.iaload, 1) := by decide +kernel
theorem dX12_morning_18 : decode cX12_morning 18 = .ok (.ifCond .eq 6, 3) := by decide +kernel
theorem dX12_morning_21 : decode cX12_morning 21 = .ok (.goto 13, 3) := by decide +kernel
theorem dX12_morning_24 : decode cX12_morning 24 = .ok (.aload_n 0, 1) := by decide +kernel
theorem dX12_morning_25 : decode cX12_morning 25 = .ok (.getfield 115, 3) := by decide +kernel
theorem dX12_morning_28 : decode cX12_morning 28 = .ok (.iload_n 2, 1) := by decide +kernel
theorem dX12_morning_29 : decode cX12_morning 29 = .ok (.iconst 3, 1) := by decide +kernel
theorem dX12_morning_30 : decode cX12_morning 30 = .ok (.iastore, 1) := by decide +kernel
theorem dX12_morning_31 : decode cX12_morning 31 = .ok (.iinc 1 1, 3) := by decide +kernel
theorem dX12_morning_34 : decode cX12_morning 34 = .ok (.iinc 2 1, 3) := by decide +kernel
theorem dX12_morning_37 : decode cX12_morning 37 = .ok (.goto (-33), 3) := by decide +kernel
theorem dX12_morning_40 : decode cX12_morning 40 = .ok (.iload_n 1, 1) := by decide +kernel
theorem dX12_morning_41 : decode cX12_morning 41 = .ok (.ireturn, 1) := by decide +kernel
theorem dX12_flee_0 : decode cX12_flee 0 = .ok (.aload_n 0, 1) := by decide +kernel
theorem dX12_flee_1 : decode cX12_flee 1 = .ok (.getfield 138, 3) := by decide +kernel
theorem dX12_flee_4 : decode cX12_flee 4 = .ok (.istore_n 2, 1) := by decide +kernel
theorem dX12_flee_5 : decode cX12_flee 5 = .ok (.aload_n 0, 1) := by decide +kernel
theorem dX12_flee_6 : decode cX12_flee 6 = .ok (.iconst 0, 1) := by decide +kernel
theorem dX12_flee_7 : decode cX12_flee 7 = .ok (.putfield 138, 3) := by decide +kernel
theorem dX12_flee_10 : decode cX12_flee 10 = .ok (.iload_n 2, 1) := by decide +kernel
theorem dX12_flee_11 : decode cX12_flee 11 = .ok (.iconst 2, 1) := by decide +kernel
theorem dX12_flee_12 : decode cX12_flee 12 = .ok (.bipush 10, 2) := by decide +kernel
theorem dX12_flee_14 : decode cX12_flee 14 = .ok (.invokestatic 188, 3) := by decide +kernel
theorem dX12_flee_17 : decode cX12_flee 17 = .ok (.ifCond .ne 5, 3) := by decide +kernel
theorem dX12_flee_20 : decode cX12_flee 20 = .ok (.iconst (-1), 1) := by decide +kernel
theorem dX12_flee_21 : decode cX12_flee 21 = .ok (.ireturn, 1) := by decide +kernel
theorem dX12_flee_22 : decode cX12_flee 22 = .ok (.iconst 0, 1) := by decide +kernel
theorem dX12_flee_23 : decode cX12_flee 23 = .ok (.istore_n 3, 1) := by decide +kernel
theorem dX12_flee_24 : decode cX12_flee 24 = .ok (.iload_n 3, 1) := by decide +kernel
theorem dX12_flee_25 : decode cX12_flee 25 = .ok (.iload_n 2, 1) := by decide +kernel
theorem dX12_flee_26 : decode cX12_flee 26 = .ok (.if_icmp .ge 65, 3) := by decide +kernel
theorem dX12_flee_29 : decode cX12_flee 29 = .ok (.aload_n 0, 1) := by decide +kernel
theorem dX12_flee_30 : decode cX12_flee 30 = .ok (.getfield 7, 3) := by decide +kernel
theorem dX12_flee_33 : decode cX12_flee 33 = .ok (.iload_n 3, 1) := by decide +kernel
theorem dX12_flee_34 : decode cX12_flee 34 = .ok (.baload, 1) := by decide +kernel
theorem dX12_flee_35 : decode cX12_flee 35 = .ok (.bipush 65, 2) := by decide +kernel
theorem dX12_flee_37 : decode cX12_flee 37 = .ok (.isub, 1) := by decide +kernel
theorem dX12_flee_38 : decode cX12_flee 38 = .ok (.invokestatic 192, 3) := by decide +kernel
theorem dX12_flee_41 : decode cX12_flee 41 = .ok (.ifCond .ne 5, 3) := by decide +kernel
theorem dX12_flee_44 : decode cX12_flee 44 = .ok (.iconst (-1), 1) := by decide +kernel
theorem dX12_flee_45 : decode cX12_flee 45 = .ok (.ireturn, 1) := by decide +kernel
theorem dX12_flee_46 : decode cX12_flee 46 = .ok (.iload_n 3, 1) := by decide +kernel
theorem dX12_flee_47 : decode cX12_flee 47 = .ok (.ifCond .le 38, 3) := by decide +kernel
theorem dX12_flee_50 : decode cX12_flee 50 = .ok (.aload_n 0, 1) := by decide +kernel
theorem dX12_flee_51 : decode cX12_flee 51 = .ok (.getfield 24, 3) := by decide +kernel
theorem dX12_flee_54 : decode cX12_flee 54 = .ok (.bipush 12, 2) := by decide +kernel
theorem dX12_flee_56 : decode cX12_flee 56 = .ok (.aload_n 0, 1) := by decide +kernel
theorem dX12_flee_57 : decode cX12_flee 57 = .ok (.getfield 7, 3) := by decide +kernel
theorem dX12_flee_60 : decode cX12_flee 60 = .ok (.iload_n 3, 1) := by decide +kernel
theorem dX12_flee_61 : decode cX12_flee 61 = .ok (.iconst 1, 1) := by decide +kernel
theorem dX12_flee_62 : decode cX12_flee 62 = .ok (.isub, 1) := by decide +kernel
theorem dX12_flee_63 : decode cX12_flee 63 = .ok (.baload, 1) := by decide +kernel
theorem dX12_flee_64 : decode cX12_flee 64 = .ok (.bipush 65, 2) := by decide +kernel
theorem dX12_flee_66 : decode cX12_flee 66 = .ok (.isub, 1) := by decide +kernel
theorem dX12_flee_67 : decode cX12_flee 67 = .ok (.imul, 1) := by decide +kernel
theorem dX12_flee_68 : decode cX12_flee 68 = .ok (.aload_n 0, 1) := by decide +kernel
theorem dX12_flee_69 : decode cX12_flee 69 = .ok (.getfield 7, 3) := by decide +kernel
theorem dX12_flee_72 : decode cX12_flee 72 = .ok (.iload_n 3, 1) := by decide +kernel
theorem dX12_flee_73 : decode cX12_flee 73 = .ok (.baload, 1) := by decide +kernel
theorem dX12_flee_74 : decode cX12_flee 74 = .ok (.iadd, 1) := by decide +kernel
theorem dX12_flee_75 : decode cX12_flee 75 = .ok (.bipush 65, 2) := by decide +kernel
theorem dX12_flee_77 : decode cX12_flee 77 = .ok (.isub, 1) := by decide +kernel
theorem dX12_flee_78 : decode cX12_flee 78 = .ok (.iaload, 1) := by decide +kernel
theorem dX12_flee_79 : decode cX12_flee 79 = .ok (.iconst (-1), 1) := by decide +kernel
theorem dX12_flee_80 : decode cX12_flee 80 = .ok (.if_icmp .ne 5, 3) := by decide +kernel
theorem dX12_flee_83 : decode cX12_flee 83 = .ok (.iconst (-1), 1) := by decide +kernel
theorem dX12_flee_84 : decode cX12_flee 84 = .ok (.ireturn, 1) := by decide +kernel
theorem dX12_flee_85 : decode cX12_flee 85 = .ok (.iinc 3 1, 3) := by decide +kernel
theorem dX12_flee_88 : decode cX12_flee 88 = .ok (.goto (-64), 3) := by decide +kernel
theorem dX12_flee_91 : decode cX12_flee 91 = .ok (.aload_n 0, 1) := by decide +kernel
theorem dX12_flee_92 : decode cX12_flee 92 = .ok (.getfield 17, 3) := by decide +kernel
theorem dX12_flee_95 : decode cX12_flee 95 = .ok (.aload_n 0, 1) := by decide +kernel
theorem dX12_flee_96 : decode cX12_flee 96 = .ok (.getfield 7, 3) := by decide +kernel
theorem dX12_flee_99 : decode cX12_flee 99 = .ok (.iconst 0, 1) := by decide +kernel
theorem dX12_flee_100 : decode cX12_flee 100 = .ok (.baload, 1) := by decide +kernel
theorem dX12_flee_101 : decode cX12_flee 101 = .ok (.bipush 65, 2) := by decide +kernel
theorem dX12_flee_103 : decode cX12_flee 103 = .ok (.isub, 1) := by decide +kernel
theorem dX12_flee_104 : decode cX12_flee 104 = .ok (.iaload, 1) := by decide +kernel
theorem dX12_flee_105 : decode cX12_flee 105 = .ok (.istore_n 3, 1) := by decide +kernel
theorem dX12_flee_106 : decode cX12_flee 106 = .ok (.iconst 0, 1) := by decide +kernel
theorem dX12_flee_107 : decode cX12_flee 107 = .ok (.istore 4, 2) := by decide +kernel
theorem dX12_flee_109 : decode cX12_flee 109 = .ok (.iconst 0, 1) := by decide +kernel
theorem dX12_flee_110 : decode cX12_flee 110 = .ok (.istore 5, 2) := by decide +kernel
theorem dX12_flee_112 : decode cX12_flee 112 = .ok (.iconst 0, 1) := by decide +kernel
theorem dX12_flee_113 : decode cX12_flee 113 = .ok (.istore 6, 2) := by decide +kernel
theorem dX12_flee_115 : decode cX12_flee 115 = .ok (.iconst 1, 1) := by decide +kernel
theorem dX12_flee_116 : decode cX12_flee 116 = .ok (.istore 7, 2) := by decide +kernel
theorem dX12_flee_118 : decode cX12_flee 118 = .ok (.iload 7, 2) := by decide +kernel
theorem dX12_flee_120 : decode cX12_flee 120 = .ok (.ifCond .eq 156, 3) := by decide +kernel
theorem dX12_flee_123 : decode cX12_flee 123 = .ok (.iload 6, 2) := by decide +kernel
theorem dX12_flee_125 : decode cX12_flee 125 = .ok (.iconst 1, 1) := by decide +kernel
theorem dX12_flee_126 : decode cX12_flee 126 = .ok (.iadd, 1) := by decide +kernel
theorem dX12_flee_127 : decode cX12_flee 127 = .ok (.iload_n 2, 1) := by decide +kernel
theorem dX12_flee_128 : decode cX12_flee 128 = .ok (.if_icmp .ge 148, 3) := by decide +kernel
theorem dX12_flee_131 : decode cX12_flee 131 = .ok (.aload_n 0, 1) := by decide +kernel
theorem dX12_flee_132 : decode cX12_flee 132 = .ok (.getfield 7, 3) := by decide +kernel
theorem dX12_flee_135 : decode cX12_flee 135 = .ok (.iload 6, 2) := by decide +kernel
theorem dX12_flee_137 : decode cX12_flee 137 = .ok (.iconst 1, 1) := by decide +kernel
theorem dX12_flee_138 : decode cX12_flee 138 = .ok (.iadd, 1) := by decide +kernel
theorem dX12_flee_139 : decode cX12_flee 139 = .ok (.baload, 1) := by decide +kernel
theorem dX12_flee_140 : decode cX12_flee 140 = .ok (.bipush 65, 2) := by decide +kernel
theorem dX12_flee_142 : decode cX12_flee 142 = .ok (.isub, 1) := by decide +kernel
theorem dX12_flee_143 : decode cX12_flee 143 = .ok (.istore 8, 2) := by decide +kernel
theorem dX12_flee_145 : decode cX12_flee 145 = .ok (.aload_n 0, 1) := by decide +kernel
theorem dX12_flee_146 : decode cX12_flee 146 = .ok (.getfield 24, 3) := by decide +kernel
theorem dX12_flee_149 : decode cX12_flee 149 = .ok (.bipush 12, 2) := by decide +kernel
theorem dX12_flee_151 : decode cX12_flee 151 = .ok (.aload_n 0, 1) := by decide +kernel
theorem dX12_flee_152 : decode cX12_flee 152 = .ok (.getfield 7, 3) := by decide +kernel
theorem dX12_flee_155 : decode cX12_flee 155 = .ok (.iload 6, 2) := by decide +kernel
theorem dX12_flee_157 : decode cX12_flee 157 = .ok (.baload, 1) := by decide +kernel
theorem dX12_flee_158 : decode cX12_flee 158 = .ok (.bipush 65, 2) := by decide +kernel
theorem dX12_flee_160 : decode cX12_flee 160 = .ok (.isub, 1) := by decide +kernel
theorem dX12_flee_161 : decode cX12_flee 161 = .ok (.imul, 1) := by decide +kernel
theorem dX12_flee_162 : decode cX12_flee 162 = .ok (.iload 8, 2) := by decide +kernel
theorem dX12_flee_164 : decode cX12_flee 164 = .ok (.iadd, 1) := by decide +kernel
theorem dX12_flee_165 : decode cX12_flee 165 = .ok (.iaload, 1) := by decide +kernel
theorem dX12_flee_166 : decode cX12_flee 166 = .ok (.istore 9, 2) := by decide +kernel
theorem dX12_flee_168 : decode cX12_flee 168 = .ok (.iload 4, 2) := by decide +kernel
theorem dX12_flee_170 : decode cX12_flee 170 = .ok (.iload 9, 2) := by decide +kernel
theorem dX12_flee_172 : decode cX12_flee 172 = .ok (.iadd, 1) := by decide +kernel
theorem dX12_flee_173 : decode cX12_flee 173 = .ok (.istore 10, 2) := by decide +kernel
theorem dX12_flee_175 : decode cX12_flee 175 = .ok (.bipush 8, 2) := by decide +kernel
theorem dX12_flee_177 : decode cX12_flee 177 = .ok (.aload_n 0, 1) := by decide +kernel
theorem dX12_flee_178 : decode cX12_flee 178 = .ok (.getfield 17, 3) := by decide +kernel
theorem dX12_flee_181 : decode cX12_flee 181 = .ok (.iload 8, 2) := by decide +kernel
theorem dX12_flee_183 : decode cX12_flee 183 = .ok (.iaload, 1) := by decide +kernel
theorem dX12_flee_184 : decode cX12_flee 184 = .ok (.imul, 1) := by decide +kernel
theorem dX12_flee_185 : decode cX12_flee 185 = .ok (.istore 11, 2) := by decide +kernel
theorem dX12_flee_187 : decode cX12_flee 187 = .ok (.aload_n 0, 1) := by decide +kernel
theorem dX12_flee_188 : decode cX12_flee 188 = .ok (.getfield 17, 3) := by decide +kernel
theorem dX12_flee_191 : decode cX12_flee 191 = .ok (.iload 8, 2) := by decide +kernel
theorem dX12_flee_193 : decode cX12_flee 193 = .ok (.iaload, 1) := by decide +kernel
theorem dX12_flee_194 : decode cX12_flee 194 = .ok (.iload_n 3, 1) := by decide +kernel
theorem dX12_flee_195 : decode cX12_flee 195 = .ok (.if_icmp .eq 34, 3) := by decide +kernel
theorem dX12_flee_198 : decode cX12_flee 198 = .ok (.aload_n 0, 1) := by decide +kernel
theorem dX12_flee_199 : decode cX12_flee 199 = .ok (.getfield 57, 3) := by decide +kernel
theorem dX12_flee_202 : decode cX12_flee 202 = .ok (.iload 11, 2) := by decide +kernel
theorem dX12_flee_204 : decode cX12_flee 204 = .ok (.iconst 5, 1) := by decide +kernel
theorem dX12_flee_205 : decode cX12_flee 205 = .ok (.iadd, 1) := by decide +kernel
theorem dX12_flee_206 : decode cX12_flee 206 = .ok (.iaload, 1) := by decide +kernel
theorem dX12_flee_207 : decode cX12_flee 207 = .ok (.iload 10, 2) := by decide +kernel
theorem dX12_flee_209 : decode cX12_flee 209 = .ok (.if_icmp .lt 24, 3) := by decide +kernel
theorem dX12_flee_212 : decode cX12_flee 212 = .ok (.aload_n 0, 1) := by decide +kernel
theorem dX12_flee_213 : decode cX12_flee 213 = .ok (.getfield 57, 3) := by decide +kernel
theorem dX12_flee_216 : decode cX12_flee 216 = .ok (.iload 11, 2) := by decide +kernel
theorem dX12_flee_218 : decode cX12_flee 218 = .ok (.bipush 6, 2) := by decide +kernel
theorem dX12_flee_220 : decode cX12_flee 220 = .ok (.iadd, 1) := by decide +kernel
theorem dX12_flee_221 : decode cX12_flee 221 = .ok (.iaload, 1) := by decide +kernel
theorem dX12_flee_222 : decode cX12_flee 222 = .ok (.ifCond .eq 7, 3) := by decide +kernel
theorem dX12_flee_225 : decode cX12_flee 225 = .ok (.iload_n 1, 1) := by decide +kernel
theorem dX12_flee_226 : decode cX12_flee 226 = .ok (.ifCond .eq 7, 3) := by decide +kernel
theorem dX12_flee_229 : decode cX12_flee 229 = .ok (.iconst 1, 1) := by decide +kernel
theorem dX12_flee_230 : decode cX12_flee 230 = .ok (.goto 4, 3) := by decide +kernel
theorem dX12_flee_233 : decode cX12_flee 233 = .ok (.iconst 0, 1) := by decide +kernel
theorem dX12_flee_234 : decode cX12_flee 234 = .ok (.istore 7, 2) := by decide +kernel
theorem dX12_flee_236 : decode cX12_flee 236 = .ok (.iload 7, 2) := by decide +kernel
theorem dX12_flee_238 : decode cX12_flee 238 = .ok (.ifCond .ne 6, 3) := by decide +kernel
theorem dX12_flee_241 : decode cX12_flee 241 = .ok (.goto (-123), 3) := by decide +kernel
theorem dX12_flee_244 : decode cX12_flee 244 = .ok (.iinc 6 1, 3) := by decide +kernel
theorem dX12_flee_247 : decode cX12_flee 247 = .ok (.iload 5, 2) := by decide +kernel
theorem dX12_flee_249 : decode cX12_flee 249 = .ok (.iload 9, 2) := by decide +kernel
theorem dX12_flee_251 : decode cX12_flee 251 = .ok (.iadd, 1) := by decide +kernel
theorem dX12_flee_252 : decode cX12_flee 252 = .ok (.istore 5, 2) := by decide +kernel
theorem dX12_flee_254 : decode cX12_flee 254 = .ok (.aload_n 0, 1) := by decide +kernel
theorem dX12_flee_255 : decode cX12_flee 255 = .ok (.getfield 17, 3) := by decide +kernel
theorem dX12_flee_258 : decode cX12_flee 258 = .ok (.iload 8, 2) := by decide +kernel
theorem dX12_flee_260 : decode cX12_flee 260 = .ok (.iaload, 1) := by decide +kernel
theorem dX12_flee_261 : decode cX12_flee 261 = .ok (.iload_n 3, 1) := by decide +kernel
theorem dX12_flee_262 : decode cX12_flee 262 = .ok (.if_icmp .ne 7, 3) := by decide +kernel
theorem dX12_flee_265 : decode cX12_flee 265 = .ok (.iconst 0, 1) := by decide +kernel
theorem dX12_flee_266 : decode cX12_flee 266 = .ok (.goto 5, 3) := by decide +kernel
theorem dX12_flee_269 : decode cX12_flee 269 = .ok (.iload 10, 2) := by decide +kernel
theorem dX12_flee_271 : decode cX12_flee 271 = .ok (.istore 4, 2) := by decide +kernel
theorem dX12_flee_273 : decode cX12_flee 273 = .ok (.goto (-155), 3) := by decide +kernel
theorem dX12_flee_276 : decode cX12_flee 276 = .ok (.aload_n 0, 1) := by decide +kernel
theorem dX12_flee_277 : decode cX12_flee 277 = .ok (.iload 5, 2) := by decide +kernel
theorem dX12_flee_279 : decode cX12_flee 279 = .ok (.putfield 121, 3) := by decide +kernel
theorem dX12_flee_282 : decode cX12_flee 282 = .ok (.aload_n 0, 1) := by decide +kernel
theorem dX12_flee_283 : decode cX12_flee 283 = .ok (.aload_n 0, 1) := by decide +kernel
theorem dX12_flee_284 : decode cX12_flee 284 = .ok (.getfield 7, 3) := by decide +kernel
theorem dX12_flee_287 : decode cX12_flee 287 = .ok (.iload 6, 2) := by decide +kernel
theorem dX12_flee_289 : decode cX12_flee 289 = .ok (.baload, 1) := by decide +kernel
theorem dX12_flee_290 : decode cX12_flee 290 = .ok (.bipush 65, 2) := by decide +kernel
theorem dX12_flee_292 : decode cX12_flee 292 = .ok (.isub, 1) := by decide +kernel
theorem dX12_flee_293 : decode cX12_flee 293 = .ok (.putfield 124, 3) := by decide +kernel
theorem dX12_flee_296 : decode cX12_flee 296 = .ok (.iload 6, 2) := by decide +kernel
theorem dX12_flee_298 : decode cX12_flee 298 = .ok (.iconst 1, 1) := by decide +kernel
theorem dX12_flee_299 : decode cX12_flee 299 = .ok (.iadd, 1) := by decide +kernel
theorem dX12_flee_300 : decode cX12_flee 300 = .ok (.ireturn, 1) := by decide +kernel
theorem dX12_fled_0 : decode cX12_fled 0 = .ok (.iload_n 1, 1) := by decide +kernel
theorem dX12_fled_1 : decode cX12_fled 1 = .ok (.ifCond .ne 10, 3) := by decide +kernel
theorem dX12_fled_4 : decode cX12_fled 4 = .ok (.aload_n 0, 1) := by decide +kernel
theorem dX12_fled_5 : decode cX12_fled 5 = .ok (.getfield 121, 3) := by decide +kernel
theorem dX12_fled_8 : decode cX12_fled 8 = .ok (.goto 17, 3) := by decide +kernel
theorem dX12_fled_11 : decode cX12_fled 11 = .ok (.iload_n 1, 1) := by decide +kernel
theorem dX12_fled_12 : decode cX12_fled 12 = .ok (.iconst 1, 1) := by decide +kernel
theorem dX12_fled_13 : decode cX12_fled 13 = .ok (.if_icmp .ne 10, 3) := by decide +kernel
theorem dX12_fled_16 : decode cX12_fled 16 = .ok (.aload_n 0, 1) := by decide +kernel
theorem dX12_fled_17 : decode cX12_fled 17 = .ok (.getfield 124, 3) := by decide +kernel
theorem dX12_fled_20 : decode cX12_fled 20 = .ok (.goto 5, 3) := by decide +kernel
theorem dX12_fled_23 : decode cX12_fled 23 = .ok (.bipush (-9), 2) := by decide +kernel
theorem dX12_fled_25 : decode cX12_fled 25 = .ok (.ireturn, 1) := by decide +kernel
theorem dX12_isSome_0 : decode cX12_isSome 0 = .ok (.iload_n 0, 1) := by decide +kernel
theorem dX12_isSome_1 : decode cX12_isSome 1 = .ok (.iconst 0, 1) := by decide +kernel
theorem dX12_isSome_2 : decode cX12_isSome 2 = .ok (.bipush 15, 2) := by decide +kernel
theorem dX12_isSome_4 : decode cX12_isSome 4 = .ok (.invokestatic 188, 3) := by decide +kernel
theorem dX12_isSome_7 : decode cX12_isSome 7 = .ok (.ireturn, 1) := by decide +kernel
theorem dX12_doubt_0 : decode cX12_doubt 0 = .ok (.iload_n 1, 1) := by decide +kernel
theorem dX12_doubt_1 : decode cX12_doubt 1 = .ok (.invokestatic 284, 3) := by decide +kernel
theorem dX12_doubt_4 : decode cX12_doubt 4 = .ok (.ifCond .eq 46, 3) := by decide +kernel
theorem dX12_doubt_7 : decode cX12_doubt 7 = .ok (.iload_n 2, 1) := by decide +kernel
theorem dX12_doubt_8 : decode cX12_doubt 8 = .ok (.invokestatic 284, 3) := by decide +kernel
theorem dX12_doubt_11 : decode cX12_doubt 11 = .ok (.ifCond .eq 39, 3) := by decide +kernel
theorem dX12_doubt_14 : decode cX12_doubt 14 = .ok (.iload_n 3, 1) := by decide +kernel
theorem dX12_doubt_15 : decode cX12_doubt 15 = .ok (.invokestatic 284, 3) := by decide +kernel
theorem dX12_doubt_18 : decode cX12_doubt 18 = .ok (.ifCond .eq 32, 3) := by decide +kernel
theorem dX12_doubt_21 : decode cX12_doubt 21 = .ok (.iload 4, 2) := by decide +kernel
theorem dX12_doubt_23 : decode cX12_doubt 23 = .ok (.invokestatic 284, 3) := by decide +kernel
theorem dX12_doubt_26 : decode cX12_doubt 26 = .ok (.ifCond .eq 24, 3) := by decide +kernel
theorem dX12_doubt_29 : decode cX12_doubt 29 = .ok (.iload_n 1, 1) := by decide +kernel
theorem dX12_doubt_30 : decode cX12_doubt 30 = .ok (.iload_n 2, 1) := by decide +kernel
theorem dX12_doubt_31 : decode cX12_doubt 31 = .ok (.iadd, 1) := by decide +kernel
theorem dX12_doubt_32 : decode cX12_doubt 32 = .ok (.iload_n 3, 1) := by decide +kernel
theorem dX12_doubt_33 : decode cX12_doubt 33 = .ok (.iadd, 1) := by decide +kernel
theorem dX12_doubt_34 : decode cX12_doubt 34 = .ok (.iload 4, 2) := by decide +kernel
theorem dX12_doubt_36 : decode cX12_doubt 36 = .ok (.iadd, 1) := by decide +kernel
theorem dX12_doubt_37 : decode cX12_doubt 37 = .ok (.ifCond .eq 13, 3) := by decide +kernel
theorem dX12_doubt_40 : decode cX12_doubt 40 = .ok (.iload 5, 2) := by decide +kernel
theorem dX12_doubt_42 : decode cX12_doubt 42 = .ok (.iconst 0, 1) := by decide +kernel
theorem dX12_doubt_43 : decode cX12_doubt 43 = .ok (.iconst 2, 1) := by decide +kernel
theorem dX12_doubt_44 : decode cX12_doubt 44 = .ok (.invokestatic 188, 3) := by decide +kernel
theorem dX12_doubt_47 : decode cX12_doubt 47 = .ok (.ifCond .ne 7, 3) := by decide +kernel
theorem dX12_doubt_50 : decode cX12_doubt 50 = .ok (.ldc2_w 287, 3) := by decide +kernel
theorem dX12_doubt_53 : decode cX12_doubt 53 = .ok (.lreturn, 1) := by decide +kernel
theorem dX12_doubt_54 : decode cX12_doubt 54 = .ok (.aload_n 0, 1) := by decide +kernel
theorem dX12_doubt_55 : decode cX12_doubt 55 = .ok (.iload_n 1, 1) := by decide +kernel
theorem dX12_doubt_56 : decode cX12_doubt 56 = .ok (.iload_n 2, 1) := by decide +kernel
theorem dX12_doubt_57 : decode cX12_doubt 57 = .ok (.iadd, 1) := by decide +kernel
theorem dX12_doubt_58 : decode cX12_doubt 58 = .ok (.iload_n 3, 1) := by decide +kernel
theorem dX12_doubt_59 : decode cX12_doubt 59 = .ok (.iadd, 1) := by decide +kernel
theorem dX12_doubt_60 : decode cX12_doubt 60 = .ok (.iload 4, 2) := by decide +kernel
theorem dX12_doubt_62 : decode cX12_doubt 62 = .ok (.iadd, 1) := by decide +kernel
theorem dX12_doubt_63 : decode cX12_doubt 63 = .ok (.iload_n 1, 1) := by decide +kernel
theorem dX12_doubt_64 : decode cX12_doubt 64 = .ok (.iload_n 3, 1) := by decide +kernel
theorem dX12_doubt_65 : decode cX12_doubt 65 = .ok (.iadd, 1) := by decide +kernel
theorem dX12_doubt_66 : decode cX12_doubt 66 = .ok (.invokevirtual 289, 3) := by decide +kernel
theorem dX12_doubt_69 : decode cX12_doubt 69 = .ok (.lstore 6, 2) := by decide +kernel
theorem dX12_doubt_71 : decode cX12_doubt 71 = .ok (.lconst 0, 1) := by decide +kernel
theorem dX12_doubt_72 : decode cX12_doubt 72 = .ok (.lstore 8, 2) := by decide +kernel
theorem dX12_doubt_74 : decode cX12_doubt 74 = .ok (.iconst 0, 1) := by decide +kernel
theorem dX12_doubt_75 : decode cX12_doubt 75 = .ok (.istore 10, 2) := by decide +kernel
theorem dX12_doubt_77 : decode cX12_doubt 77 = .ok (.iload 10, 2) := by decide +kernel
theorem dX12_doubt_79 : decode cX12_doubt 79 = .ok (.iload_n 1, 1) := by decide +kernel
theorem dX12_doubt_80 : decode cX12_doubt 80 = .ok (.if_icmp .gt 55, 3) := by decide +kernel
theorem dX12_doubt_83 : decode cX12_doubt 83 = .ok (.lload 8, 2) := by decide +kernel
theorem dX12_doubt_85 : decode cX12_doubt 85 = .ok (.iload_n 1, 1) := by decide +kernel
theorem dX12_doubt_86 : decode cX12_doubt 86 = .ok (.iload_n 3, 1) := by decide +kernel
theorem dX12_doubt_87 : decode cX12_doubt 87 = .ok (.iadd, 1) := by decide +kernel
theorem dX12_doubt_88 : decode cX12_doubt 88 = .ok (.iload 10, 2) := by decide +kernel
theorem dX12_doubt_90 : decode cX12_doubt 90 = .ok (.isub, 1) := by decide +kernel
theorem dX12_doubt_91 : decode cX12_doubt 91 = .ok (.iload_n 3, 1) := by decide +kernel
theorem dX12_doubt_92 : decode cX12_doubt 92 = .ok (.iload 4, 2) := by decide +kernel
theorem dX12_doubt_94 : decode cX12_doubt 94 = .ok (.iadd, 1) := by decide +kernel
theorem dX12_doubt_95 : decode cX12_doubt 95 = .ok (.if_icmp .le 7, 3) := by decide +kernel
theorem dX12_doubt_98 : decode cX12_doubt 98 = .ok (.lconst 0, 1) := by decide +kernel
theorem dX12_doubt_99 : decode cX12_doubt 99 = .ok (.goto 27, 3) := by decide +kernel
theorem dX12_doubt_102 : decode cX12_doubt 102 = .ok (.aload_n 0, 1) := by decide +kernel
theorem dX12_doubt_103 : decode cX12_doubt 103 = .ok (.iload_n 1, 1) := by decide +kernel
theorem dX12_doubt_104 : decode cX12_doubt 104 = .ok (.iload_n 2, 1) := by decide +kernel
theorem dX12_doubt_105 : decode cX12_doubt 105 = .ok (.iadd, 1) := by decide +kernel
theorem dX12_doubt_106 : decode cX12_doubt 106 = .ok (.iload 10, 2) := by decide +kernel
theorem dX12_doubt_108 : decode cX12_doubt 108 = .ok (.invokevirtual 289, 3) := by decide +kernel
theorem dX12_doubt_111 : decode cX12_doubt 111 = .ok (.aload_n 0, 1) := by decide +kernel
theorem dX12_doubt_112 : decode cX12_doubt 112 = .ok (.iload_n 3, 1) := by decide +kernel
theorem dX12_doubt_113 : decode cX12_doubt 113 = .ok (.iload 4, 2) := by decide +kernel
theorem dX12_doubt_115 : decode cX12_doubt 115 = .ok (.iadd, 1) := by decide +kernel
theorem dX12_doubt_116 : decode cX12_doubt 116 = .ok (.iload_n 1, 1) := by decide +kernel
theorem dX12_doubt_117 : decode cX12_doubt 117 = .ok (.iload_n 3, 1) := by decide +kernel
theorem dX12_doubt_118 : decode cX12_doubt 118 = .ok (.iadd, 1) := by decide +kernel
theorem dX12_doubt_119 : decode cX12_doubt 119 = .ok (.iload 10, 2) := by decide +kernel
theorem dX12_doubt_121 : decode cX12_doubt 121 = .ok (.isub, 1) := by decide +kernel
theorem dX12_doubt_122 : decode cX12_doubt 122 = .ok (.invokevirtual 289, 3) := by decide +kernel
theorem dX12_doubt_125 : decode cX12_doubt 125 = .ok (.lmul, 1) := by decide +kernel
theorem dX12_doubt_126 : decode cX12_doubt 126 = .ok (.ladd, 1) := by decide +kernel
theorem dX12_doubt_127 : decode cX12_doubt 127 = .ok (.lstore 8, 2) := by decide +kernel
theorem dX12_doubt_129 : decode cX12_doubt 129 = .ok (.iinc 10 1, 3) := by decide +kernel
theorem dX12_doubt_132 : decode cX12_doubt 132 = .ok (.goto (-55), 3) := by decide +kernel
theorem dX12_doubt_135 : decode cX12_doubt 135 = .ok (.iload 5, 2) := by decide +kernel
theorem dX12_doubt_137 : decode cX12_doubt 137 = .ok (.iconst 2, 1) := by decide +kernel
theorem dX12_doubt_138 : decode cX12_doubt 138 = .ok (.if_icmp .ne 21, 3) := by decide +kernel
theorem dX12_doubt_141 : decode cX12_doubt 141 = .ok (.ldc2_w 293, 3) := by decide +kernel
theorem dX12_doubt_144 : decode cX12_doubt 144 = .ok (.lload 8, 2) := by decide +kernel
theorem dX12_doubt_146 : decode cX12_doubt 146 = .ok (.lmul, 1) := by decide +kernel
theorem dX12_doubt_147 : decode cX12_doubt 147 = .ok (.lload 6, 2) := by decide +kernel
theorem dX12_doubt_149 : decode cX12_doubt 149 = .ok (.lcmp, 1) := by decide +kernel
theorem dX12_doubt_150 : decode cX12_doubt 150 = .ok (.ifCond .gt 7, 3) := by decide +kernel
theorem dX12_doubt_153 : decode cX12_doubt 153 = .ok (.lconst 1, 1) := by decide +kernel
theorem dX12_doubt_154 : decode cX12_doubt 154 = .ok (.goto 4, 3) := by decide +kernel
theorem dX12_doubt_157 : decode cX12_doubt 157 = .ok (.lconst 0, 1) := by decide +kernel
theorem dX12_doubt_158 : decode cX12_doubt 158 = .ok (.lreturn, 1) := by decide +kernel
theorem dX12_doubt_159 : decode cX12_doubt 159 = .ok (.lload 8, 2) := by decide +kernel
theorem dX12_doubt_161 : decode cX12_doubt 161 = .ok (.lstore 10, 2) := by decide +kernel
theorem dX12_doubt_163 : decode cX12_doubt 163 = .ok (.lload 6, 2) := by decide +kernel
theorem dX12_doubt_165 : decode cX12_doubt 165 = .ok (.lstore 12, 2) := by decide +kernel
theorem dX12_doubt_167 : decode cX12_doubt 167 = .ok (.lload 12, 2) := by decide +kernel
theorem dX12_doubt_169 : decode cX12_doubt 169 = .ok (.lconst 0, 1) := by decide +kernel
theorem dX12_doubt_170 : decode cX12_doubt 170 = .ok (.lcmp, 1) := by decide +kernel
theorem dX12_doubt_171 : decode cX12_doubt 171 = .ok (.ifCond .eq 21, 3) := by decide +kernel
theorem dX12_doubt_174 : decode cX12_doubt 174 = .ok (.lload 10, 2) := by decide +kernel
theorem dX12_doubt_176 : decode cX12_doubt 176 = .ok (.lload 12, 2) := by decide +kernel
theorem dX12_doubt_178 : decode cX12_doubt 178 = .ok (.lrem, 1) := by decide +kernel
theorem dX12_doubt_179 : decode cX12_doubt 179 = .ok (.lstore 14, 2) := by decide +kernel
theorem dX12_doubt_181 : decode cX12_doubt 181 = .ok (.lload 12, 2) := by decide +kernel
theorem dX12_doubt_183 : decode cX12_doubt 183 = .ok (.lstore 10, 2) := by decide +kernel
theorem dX12_doubt_185 : decode cX12_doubt 185 = .ok (.lload 14, 2) := by decide +kernel
theorem dX12_doubt_187 : decode cX12_doubt 187 = .ok (.lstore 12, 2) := by decide +kernel
theorem dX12_doubt_189 : decode cX12_doubt 189 = .ok (.goto (-22), 3) := by decide +kernel
theorem dX12_doubt_192 : decode cX12_doubt 192 = .ok (.iload 5, 2) := by decide +kernel
theorem dX12_doubt_194 : decode cX12_doubt 194 = .ok (.ifCond .ne 11, 3) := by decide +kernel
theorem dX12_doubt_197 : decode cX12_doubt 197 = .ok (.lload 8, 2) := by decide +kernel
theorem dX12_doubt_199 : decode cX12_doubt 199 = .ok (.lload 10, 2) := by decide +kernel
theorem dX12_doubt_201 : decode cX12_doubt 201 = .ok (.ldiv, 1) := by decide +kernel
theorem dX12_doubt_202 : decode cX12_doubt 202 = .ok (.goto 8, 3) := by decide +kernel
theorem dX12_doubt_205 : decode cX12_doubt 205 = .ok (.lload 6, 2) := by decide +kernel
theorem dX12_doubt_207 : decode cX12_doubt 207 = .ok (.lload 10, 2) := by decide +kernel
theorem dX12_doubt_209 : decode cX12_doubt 209 = .ok (.ldiv, 1) := by decide +kernel
theorem dX12_doubt_210 : decode cX12_doubt 210 = .ok (.lreturn, 1) := by decide +kernel
theorem dX12_count_0 : decode cX12_count 0 = .ok (.iload_n 1, 1) := by decide +kernel
theorem dX12_count_1 : decode cX12_count 1 = .ok (.tableswitch 42 0 2 #[27, 32, 37], 27) := by decide +kernel
theorem dX12_count_28 : decode cX12_count 28 = .ok (.aload_n 0, 1) := by decide +kernel
theorem dX12_count_29 : decode cX12_count 29 = .ok (.getfield 260, 3) := by decide +kernel
theorem dX12_count_32 : decode cX12_count 32 = .ok (.ireturn, 1) := by decide +kernel
theorem dX12_count_33 : decode cX12_count 33 = .ok (.aload_n 0, 1) := by decide +kernel
theorem dX12_count_34 : decode cX12_count 34 = .ok (.getfield 271, 3) := by decide +kernel
theorem dX12_count_37 : decode cX12_count 37 = .ok (.ireturn, 1) := by decide +kernel
theorem dX12_count_38 : decode cX12_count 38 = .ok (.aload_n 0, 1) := by decide +kernel
theorem dX12_count_39 : decode cX12_count 39 = .ok (.getfield 138, 3) := by decide +kernel
theorem dX12_count_42 : decode cX12_count 42 = .ok (.ireturn, 1) := by decide +kernel
theorem dX12_count_43 : decode cX12_count 43 = .ok (.iload_n 1, 1) := by decide +kernel
theorem dX12_count_44 : decode cX12_count 44 = .ok (.bipush 10, 2) := by decide +kernel
theorem dX12_count_46 : decode cX12_count 46 = .ok (.bipush 13, 2) := by decide +kernel
theorem dX12_count_48 : decode cX12_count 48 = .ok (.invokestatic 188, 3) := by decide +kernel
theorem dX12_count_51 : decode cX12_count 51 = .ok (.ifCond .eq 13, 3) := by decide +kernel
theorem dX12_count_54 : decode cX12_count 54 = .ok (.aload_n 0, 1) := by decide +kernel
theorem dX12_count_55 : decode cX12_count 55 = .ok (.getfield 103, 3) := by decide +kernel
theorem dX12_count_58 : decode cX12_count 58 = .ok (.iload_n 1, 1) := by decide +kernel
theorem dX12_count_59 : decode cX12_count 59 = .ok (.bipush 10, 2) := by decide +kernel
theorem dX12_count_61 : decode cX12_count 61 = .ok (.isub, 1) := by decide +kernel
theorem dX12_count_62 : decode cX12_count 62 = .ok (.iaload, 1) := by decide +kernel
theorem dX12_count_63 : decode cX12_count 63 = .ok (.ireturn, 1) := by decide +kernel
theorem dX12_count_64 : decode cX12_count 64 = .ok (.iload_n 1, 1) := by decide +kernel
theorem dX12_count_65 : decode cX12_count 65 = .ok (.bipush 20, 2) := by decide +kernel
theorem dX12_count_67 : decode cX12_count 67 = .ok (.bipush 23, 2) := by decide +kernel
theorem dX12_count_69 : decode cX12_count 69 = .ok (.invokestatic 188, 3) := by decide +kernel
theorem dX12_count_72 : decode cX12_count 72 = .ok (.ifCond .eq 12, 3) := by decide +kernel
theorem dX12_count_75 : decode cX12_count 75 = .ok (.aload_n 0, 1) := by decide +kernel
theorem dX12_count_76 : decode cX12_count 76 = .ok (.iload_n 1, 1) := by decide +kernel
theorem dX12_count_77 : decode cX12_count 77 = .ok (.bipush 20, 2) := by decide +kernel
theorem dX12_count_79 : decode cX12_count 79 = .ok (.isub, 1) := by decide +kernel
theorem dX12_count_80 : decode cX12_count 80 = .ok (.invokevirtual 274, 3) := by decide +kernel
theorem dX12_count_83 : decode cX12_count 83 = .ok (.ireturn, 1) := by decide +kernel
theorem dX12_count_84 : decode cX12_count 84 = .ok (.iload_n 1, 1) := by decide +kernel
theorem dX12_count_85 : decode cX12_count 85 = .ok (.bipush 30, 2) := by decide +kernel
theorem dX12_count_87 : decode cX12_count 87 = .ok (.bipush 33, 2) := by decide +kernel
theorem dX12_count_89 : decode cX12_count 89 = .ok (.invokestatic 188, 3) := by decide +kernel
theorem dX12_count_92 : decode cX12_count 92 = .ok (.ifCond .eq 15, 3) := by decide +kernel
theorem dX12_count_95 : decode cX12_count 95 = .ok (.aload_n 0, 1) := by decide +kernel
theorem dX12_count_96 : decode cX12_count 96 = .ok (.getfield 84, 3) := by decide +kernel
theorem dX12_count_99 : decode cX12_count 99 = .ok (.iload_n 1, 1) := by decide +kernel
theorem dX12_count_100 : decode cX12_count 100 = .ok (.bipush 30, 2) := by decide +kernel
theorem dX12_count_102 : decode cX12_count 102 = .ok (.isub, 1) := by decide +kernel
theorem dX12_count_103 : decode cX12_count 103 = .ok (.iaload, 1) := by decide +kernel
theorem dX12_count_104 : decode cX12_count 104 = .ok (.goto 4, 3) := by decide +kernel
theorem dX12_count_107 : decode cX12_count 107 = .ok (.iconst (-1), 1) := by decide +kernel
theorem dX12_count_108 : decode cX12_count 108 = .ok (.ireturn, 1) := by decide +kernel
theorem dX12_chosen_0 : decode cX12_chosen 0 = .ok (.aload_n 0, 1) := by decide +kernel
theorem dX12_chosen_1 : decode cX12_chosen 1 = .ok (.getfield 295, 3) := by decide +kernel
theorem dX12_chosen_4 : decode cX12_chosen 4 = .ok (.ifCond .ne 100, 3) := by decide +kernel
theorem dX12_chosen_7 : decode cX12_chosen 7 = .ok (.aload_n 0, 1) := by decide +kernel
theorem dX12_chosen_8 : decode cX12_chosen 8 = .ok (.iconst 1, 1) := by decide +kernel
theorem dX12_chosen_9 : decode cX12_chosen 9 = .ok (.putfield 295, 3) := by decide +kernel
theorem dX12_chosen_12 : decode cX12_chosen 12 = .ok (.iconst 0, 1) := by decide +kernel
theorem dX12_chosen_13 : decode cX12_chosen 13 = .ok (.istore_n 3, 1) := by decide +kernel
theorem dX12_chosen_14 : decode cX12_chosen 14 = .ok (.iload_n 3, 1) := by decide +kernel
theorem dX12_chosen_15 : decode cX12_chosen 15 = .ok (.bipush 61, 2) := by decide +kernel
theorem dX12_chosen_17 : decode cX12_chosen 17 = .ok (.if_icmp .ge 87, 3) := by decide +kernel
theorem dX12_chosen_20 : decode cX12_chosen 20 = .ok (.aload_n 0, 1) := by decide +kernel
theorem dX12_chosen_21 : decode cX12_chosen 21 = .ok (.getfield 127, 3) := by decide +kernel
theorem dX12_chosen_24 : decode cX12_chosen 24 = .ok (.bipush 61, 2) := by decide +kernel
theorem dX12_chosen_26 : decode cX12_chosen 26 = .ok (.iload_n 3, 1) := by decide +kernel
theorem dX12_chosen_27 : decode cX12_chosen 27 = .ok (.imul, 1) := by decide +kernel
theorem dX12_chosen_28 : decode cX12_chosen 28 = .ok (.lconst 1, 1) := by decide +kernel
theorem dX12_chosen_29 : decode cX12_chosen 29 = .ok (.lastore, 1) := by decide +kernel
theorem dX12_chosen_30 : decode cX12_chosen 30 = .ok (.iconst 1, 1) := by decide +kernel
theorem dX12_chosen_31 : decode cX12_chosen 31 = .ok (.istore 4, 2) := by decide +kernel
theorem dX12_chosen_33 : decode cX12_chosen 33 = .ok (.iload 4, 2) := by decide +kernel
theorem dX12_chosen_35 : decode cX12_chosen 35 = .ok (.iload_n 3, 1) := by decide +kernel
theorem dX12_chosen_36 : decode cX12_chosen 36 = .ok (.if_icmp .gt 62, 3) := by decide +kernel
theorem dX12_chosen_39 : decode cX12_chosen 39 = .ok (.aload_n 0, 1) := by decide +kernel
theorem dX12_chosen_40 : decode cX12_chosen 40 = .ok (.getfield 127, 3) := by decide +kernel
theorem dX12_chosen_43 : decode cX12_chosen 43 = .ok (.bipush 61, 2) := by decide +kernel
theorem dX12_chosen_45 : decode cX12_chosen 45 = .ok (.iload_n 3, 1) := by decide +kernel
theorem dX12_chosen_46 : decode cX12_chosen 46 = .ok (.imul, 1) := by decide +kernel
theorem dX12_chosen_47 : decode cX12_chosen 47 = .ok (.iload 4, 2) := by decide +kernel
theorem dX12_chosen_49 : decode cX12_chosen 49 = .ok (.iadd, 1) := by decide +kernel
theorem dX12_chosen_50 : decode cX12_chosen 50 = .ok (.aload_n 0, 1) := by decide +kernel
theorem dX12_chosen_51 : decode cX12_chosen 51 = .ok (.getfield 127, 3) := by decide +kernel
theorem dX12_chosen_54 : decode cX12_chosen 54 = .ok (.bipush 61, 2) := by decide +kernel
theorem dX12_chosen_56 : decode cX12_chosen 56 = .ok (.iload_n 3, 1) := by decide +kernel
theorem dX12_chosen_57 : decode cX12_chosen 57 = .ok (.iconst 1, 1) := by decide +kernel
theorem dX12_chosen_58 : decode cX12_chosen 58 = .ok (.isub, 1) := by decide +kernel
theorem dX12_chosen_59 : decode cX12_chosen 59 = .ok (.imul, 1) := by decide +kernel
theorem dX12_chosen_60 : decode cX12_chosen 60 = .ok (.iload 4, 2) := by decide +kernel
theorem dX12_chosen_62 : decode cX12_chosen 62 = .ok (.iadd, 1) := by decide +kernel
theorem dX12_chosen_63 : decode cX12_chosen 63 = .ok (.iconst 1, 1) := by decide +kernel
theorem dX12_chosen_64 : decode cX12_chosen 64 = .ok (.isub, 1) := by decide +kernel
theorem dX12_chosen_65 : decode cX12_chosen 65 = .ok (.laload, 1) := by decide +kernel
theorem dX12_chosen_66 : decode cX12_chosen 66 = .ok (.iload 4, 2) := by decide +kernel
theorem dX12_chosen_68 : decode cX12_chosen 68 = .ok (.iload_n 3, 1) := by decide +kernel
theorem dX12_chosen_69 : decode cX12_chosen 69 = .ok (.if_icmp .ge 20, 3) := by decide +kernel
theorem dX12_chosen_72 : decode cX12_chosen 72 = .ok (.aload_n 0, 1) := by decide +kernel
theorem dX12_chosen_73 : decode cX12_chosen 73 = .ok (.getfield 127, 3) := by decide +kernel
theorem dX12_chosen_76 : decode cX12_chosen 76 = .ok (.bipush 61, 2) := by decide +kernel
theorem dX12_chosen_78 : decode cX12_chosen 78 = .ok (.iload_n 3, 1) := by decide +kernel
theorem dX12_chosen_79 : decode cX12_chosen 79 = .ok (.iconst 1, 1) := by decide +kernel
theorem dX12_chosen_80 : decode cX12_chosen 80 = .ok (.isub, 1) := by decide +kernel
theorem dX12_chosen_81 : decode cX12_chosen 81 = .ok (.imul, 1) := by decide +kernel
theorem dX12_chosen_82 : decode cX12_chosen 82 = .ok (.iload 4, 2) := by decide +kernel
theorem dX12_chosen_84 : decode cX12_chosen 84 = .ok (.iadd, 1) := by decide +kernel
theorem dX12_chosen_85 : decode cX12_chosen 85 = .ok (.laload, 1) := by decide +kernel
theorem dX12_chosen_86 : decode cX12_chosen 86 = .ok (.goto 4, 3) := by decide +kernel
theorem dX12_chosen_89 : decode cX12_chosen 89 = .ok (.lconst 0, 1) := by decide +kernel
theorem dX12_chosen_90 : decode cX12_chosen 90 = .ok (.ladd, 1) := by decide +kernel
theorem dX12_chosen_91 : decode cX12_chosen 91 = .ok (.lastore, 1) := by decide +kernel
theorem dX12_chosen_92 : decode cX12_chosen 92 = .ok (.iinc 4 1, 3) := by decide +kernel
theorem dX12_chosen_95 : decode cX12_chosen 95 = .ok (.goto (-62), 3) := by decide +kernel
theorem dX12_chosen_98 : decode cX12_chosen 98 = .ok (.iinc 3 1, 3) := by decide +kernel
theorem dX12_chosen_101 : decode cX12_chosen 101 = .ok (.goto (-87), 3) := by decide +kernel
theorem dX12_chosen_104 : decode cX12_chosen 104 = .ok (.iload_n 2, 1) := by decide +kernel
theorem dX12_chosen_105 : decode cX12_chosen 105 = .ok (.ifCond .lt 8, 3) := by decide +kernel
theorem dX12_chosen_108 : decode cX12_chosen 108 = .ok (.iload_n 2, 1) := by decide +kernel
theorem dX12_chosen_109 : decode cX12_chosen 109 = .ok (.iload_n 1, 1) := by decide +kernel
theorem dX12_chosen_110 : decode cX12_chosen 110 = .ok (.if_icmp .le 7, 3) := by decide +kernel
theorem dX12_chosen_113 : decode cX12_chosen 113 = .ok (.lconst 0, 1) := by decide +kernel
theorem dX12_chosen_114 : decode cX12_chosen 114 = .ok (.goto 14, 3) := by decide +kernel
theorem dX12_chosen_117 : decode cX12_chosen 117 = .ok (.aload_n 0, 1) := by decide +kernel
theorem dX12_chosen_118 : decode cX12_chosen 118 = .ok (.getfield 127, 3) := by decide +kernel
theorem dX12_chosen_121 : decode cX12_chosen 121 = .ok (.bipush 61, 2) := by decide +kernel
theorem dX12_chosen_123 : decode cX12_chosen 123 = .ok (.iload_n 1, 1) := by decide +kernel
theorem dX12_chosen_124 : decode cX12_chosen 124 = .ok (.imul, 1) := by decide +kernel
theorem dX12_chosen_125 : decode cX12_chosen 125 = .ok (.iload_n 2, 1) := by decide +kernel
theorem dX12_chosen_126 : decode cX12_chosen 126 = .ok (.iadd, 1) := by decide +kernel
theorem dX12_chosen_127 : decode cX12_chosen 127 = .ok (.laload, 1) := by decide +kernel
theorem dX12_chosen_128 : decode cX12_chosen 128 = .ok (.lreturn, 1) := by decide +kernel
theorem dJ6_numberOfTrailingZeros_0f7a4_0 : decode cJ6_numberOfTrailingZeros_0f7a4 0 = .ok (.iload_n 0, 1) := by decide +kernel
theorem dJ6_numberOfTrailingZeros_0f7a4_1 : decode cJ6_numberOfTrailingZeros_0f7a4 1 = .ok (.iconst (-1), 1) := by decide +kernel
theorem dJ6_numberOfTrailingZeros_0f7a4_2 : decode cJ6_numberOfTrailingZeros_0f7a4 2 = .ok (.ixor, 1) := by decide +kernel
theorem dJ6_numberOfTrailingZeros_0f7a4_3 : decode cJ6_numberOfTrailingZeros_0f7a4 3 = .ok (.iload_n 0, 1) := by decide +kernel
theorem dJ6_numberOfTrailingZeros_0f7a4_4 : decode cJ6_numberOfTrailingZeros_0f7a4 4 = .ok (.iconst 1, 1) := by decide +kernel
theorem dJ6_numberOfTrailingZeros_0f7a4_5 : decode cJ6_numberOfTrailingZeros_0f7a4 5 = .ok (.isub, 1) := by decide +kernel
theorem dJ6_numberOfTrailingZeros_0f7a4_6 : decode cJ6_numberOfTrailingZeros_0f7a4 6 = .ok (.iand, 1) := by decide +kernel
theorem dJ6_numberOfTrailingZeros_0f7a4_7 : decode cJ6_numberOfTrailingZeros_0f7a4 7 = .ok (.istore_n 0, 1) := by decide +kernel
theorem dJ6_numberOfTrailingZeros_0f7a4_8 : decode cJ6_numberOfTrailingZeros_0f7a4 8 = .ok (.iload_n 0, 1) := by decide +kernel
theorem dJ6_numberOfTrailingZeros_0f7a4_9 : decode cJ6_numberOfTrailingZeros_0f7a4 9 = .ok (.ifCond .gt 8, 3) := by decide +kernel
theorem dJ6_numberOfTrailingZeros_0f7a4_12 : decode cJ6_numberOfTrailingZeros_0f7a4 12 = .ok (.iload_n 0, 1) := by decide +kernel
theorem dJ6_numberOfTrailingZeros_0f7a4_13 : decode cJ6_numberOfTrailingZeros_0f7a4 13 = .ok (.bipush 32, 2) := by decide +kernel
theorem dJ6_numberOfTrailingZeros_0f7a4_15 : decode cJ6_numberOfTrailingZeros_0f7a4 15 = .ok (.iand, 1) := by decide +kernel
theorem dJ6_numberOfTrailingZeros_0f7a4_16 : decode cJ6_numberOfTrailingZeros_0f7a4 16 = .ok (.ireturn, 1) := by decide +kernel
theorem dJ6_numberOfTrailingZeros_0f7a4_17 : decode cJ6_numberOfTrailingZeros_0f7a4 17 = .ok (.iconst 1, 1) := by decide +kernel
theorem dJ6_numberOfTrailingZeros_0f7a4_18 : decode cJ6_numberOfTrailingZeros_0f7a4 18 = .ok (.istore_n 1, 1) := by decide +kernel
theorem dJ6_numberOfTrailingZeros_0f7a4_19 : decode cJ6_numberOfTrailingZeros_0f7a4 19 = .ok (.iload_n 0, 1) := by decide +kernel
theorem dJ6_numberOfTrailingZeros_0f7a4_20 : decode cJ6_numberOfTrailingZeros_0f7a4 20 = .ok (.ldc_w 264, 3) := by decide +kernel
theorem dJ6_numberOfTrailingZeros_0f7a4_23 : decode cJ6_numberOfTrailingZeros_0f7a4 23 = .ok (.if_icmp .le 11, 3) := by decide +kernel
theorem dJ6_numberOfTrailingZeros_0f7a4_26 : decode cJ6_numberOfTrailingZeros_0f7a4 26 = .ok (.iinc 1 16, 3) := by decide +kernel
theorem dJ6_numberOfTrailingZeros_0f7a4_29 : decode cJ6_numberOfTrailingZeros_0f7a4 29 = .ok (.iload_n 0, 1) := by decide +kernel
theorem dJ6_numberOfTrailingZeros_0f7a4_30 : decode cJ6_numberOfTrailingZeros_0f7a4 30 = .ok (.bipush 16, 2) := by decide +kernel
theorem dJ6_numberOfTrailingZeros_0f7a4_32 : decode cJ6_numberOfTrailingZeros_0f7a4 32 = .ok (.iushr, 1) := by decide +kernel
theorem dJ6_numberOfTrailingZeros_0f7a4_33 : decode cJ6_numberOfTrailingZeros_0f7a4 33 = .ok (.istore_n 0, 1) := by decide +kernel
theorem dJ6_numberOfTrailingZeros_0f7a4_34 : decode cJ6_numberOfTrailingZeros_0f7a4 34 = .ok (.iload_n 0, 1) := by decide +kernel
theorem dJ6_numberOfTrailingZeros_0f7a4_35 : decode cJ6_numberOfTrailingZeros_0f7a4 35 = .ok (.sipush 256, 3) := by decide +kernel
theorem dJ6_numberOfTrailingZeros_0f7a4_38 : decode cJ6_numberOfTrailingZeros_0f7a4 38 = .ok (.if_icmp .le 11, 3) := by decide +kernel
theorem dJ6_numberOfTrailingZeros_0f7a4_41 : decode cJ6_numberOfTrailingZeros_0f7a4 41 = .ok (.iinc 1 8, 3) := by decide +kernel
theorem dJ6_numberOfTrailingZeros_0f7a4_44 : decode cJ6_numberOfTrailingZeros_0f7a4 44 = .ok (.iload_n 0, 1) := by decide +kernel
theorem dJ6_numberOfTrailingZeros_0f7a4_45 : decode cJ6_numberOfTrailingZeros_0f7a4 45 = .ok (.bipush 8, 2) := by decide +kernel
theorem dJ6_numberOfTrailingZeros_0f7a4_47 : decode cJ6_numberOfTrailingZeros_0f7a4 47 = .ok (.iushr, 1) := by decide +kernel
theorem dJ6_numberOfTrailingZeros_0f7a4_48 : decode cJ6_numberOfTrailingZeros_0f7a4 48 = .ok (.istore_n 0, 1) := by decide +kernel
theorem dJ6_numberOfTrailingZeros_0f7a4_49 : decode cJ6_numberOfTrailingZeros_0f7a4 49 = .ok (.iload_n 0, 1) := by decide +kernel
theorem dJ6_numberOfTrailingZeros_0f7a4_50 : decode cJ6_numberOfTrailingZeros_0f7a4 50 = .ok (.bipush 16, 2) := by decide +kernel
theorem dJ6_numberOfTrailingZeros_0f7a4_52 : decode cJ6_numberOfTrailingZeros_0f7a4 52 = .ok (.if_icmp .le 10, 3) := by decide +kernel
theorem dJ6_numberOfTrailingZeros_0f7a4_55 : decode cJ6_numberOfTrailingZeros_0f7a4 55 = .ok (.iinc 1 4, 3) := by decide +kernel
theorem dJ6_numberOfTrailingZeros_0f7a4_58 : decode cJ6_numberOfTrailingZeros_0f7a4 58 = .ok (.iload_n 0, 1) := by decide +kernel
theorem dJ6_numberOfTrailingZeros_0f7a4_59 : decode cJ6_numberOfTrailingZeros_0f7a4 59 = .ok (.iconst 4, 1) := by decide +kernel
theorem dJ6_numberOfTrailingZeros_0f7a4_60 : decode cJ6_numberOfTrailingZeros_0f7a4 60 = .ok (.iushr, 1) := by decide +kernel
theorem dJ6_numberOfTrailingZeros_0f7a4_61 : decode cJ6_numberOfTrailingZeros_0f7a4 61 = .ok (.istore_n 0, 1) := by decide +kernel
theorem dJ6_numberOfTrailingZeros_0f7a4_62 : decode cJ6_numberOfTrailingZeros_0f7a4 62 = .ok (.iload_n 0, 1) := by decide +kernel
theorem dJ6_numberOfTrailingZeros_0f7a4_63 : decode cJ6_numberOfTrailingZeros_0f7a4 63 = .ok (.iconst 4, 1) := by decide +kernel
theorem dJ6_numberOfTrailingZeros_0f7a4_64 : decode cJ6_numberOfTrailingZeros_0f7a4 64 = .ok (.if_icmp .le 10, 3) := by decide +kernel
theorem dJ6_numberOfTrailingZeros_0f7a4_67 : decode cJ6_numberOfTrailingZeros_0f7a4 67 = .ok (.iinc 1 2, 3) := by decide +kernel
theorem dJ6_numberOfTrailingZeros_0f7a4_70 : decode cJ6_numberOfTrailingZeros_0f7a4 70 = .ok (.iload_n 0, 1) := by decide +kernel
theorem dJ6_numberOfTrailingZeros_0f7a4_71 : decode cJ6_numberOfTrailingZeros_0f7a4 71 = .ok (.iconst 2, 1) := by decide +kernel
theorem dJ6_numberOfTrailingZeros_0f7a4_72 : decode cJ6_numberOfTrailingZeros_0f7a4 72 = .ok (.iushr, 1) := by decide +kernel
theorem dJ6_numberOfTrailingZeros_0f7a4_73 : decode cJ6_numberOfTrailingZeros_0f7a4 73 = .ok (.istore_n 0, 1) := by decide +kernel
theorem dJ6_numberOfTrailingZeros_0f7a4_74 : decode cJ6_numberOfTrailingZeros_0f7a4 74 = .ok (.iload_n 1, 1) := by decide +kernel
theorem dJ6_numberOfTrailingZeros_0f7a4_75 : decode cJ6_numberOfTrailingZeros_0f7a4 75 = .ok (.iload_n 0, 1) := by decide +kernel
theorem dJ6_numberOfTrailingZeros_0f7a4_76 : decode cJ6_numberOfTrailingZeros_0f7a4 76 = .ok (.iconst 1, 1) := by decide +kernel
theorem dJ6_numberOfTrailingZeros_0f7a4_77 : decode cJ6_numberOfTrailingZeros_0f7a4 77 = .ok (.iushr, 1) := by decide +kernel
theorem dJ6_numberOfTrailingZeros_0f7a4_78 : decode cJ6_numberOfTrailingZeros_0f7a4 78 = .ok (.iadd, 1) := by decide +kernel
theorem dJ6_numberOfTrailingZeros_0f7a4_79 : decode cJ6_numberOfTrailingZeros_0f7a4 79 = .ok (.ireturn, 1) := by decide +kernel
theorem dJ6_bitCount_0f7a4_0 : decode cJ6_bitCount_0f7a4 0 = .ok (.iload_n 0, 1) := by decide +kernel
theorem dJ6_bitCount_0f7a4_1 : decode cJ6_bitCount_0f7a4 1 = .ok (.iload_n 0, 1) := by decide +kernel
theorem dJ6_bitCount_0f7a4_2 : decode cJ6_bitCount_0f7a4 2 = .ok (.iconst 1, 1) := by decide +kernel
theorem dJ6_bitCount_0f7a4_3 : decode cJ6_bitCount_0f7a4 3 = .ok (.iushr, 1) := by decide +kernel
theorem dJ6_bitCount_0f7a4_4 : decode cJ6_bitCount_0f7a4 4 = .ok (.ldc_w 265, 3) := by decide +kernel
theorem dJ6_bitCount_0f7a4_7 : decode cJ6_bitCount_0f7a4 7 = .ok (.iand, 1) := by decide +kernel
theorem dJ6_bitCount_0f7a4_8 : decode cJ6_bitCount_0f7a4 8 = .ok (.isub, 1) := by decide +kernel
theorem dJ6_bitCount_0f7a4_9 : decode cJ6_bitCount_0f7a4 9 = .ok (.istore_n 0, 1) := by decide +kernel
theorem dJ6_bitCount_0f7a4_10 : decode cJ6_bitCount_0f7a4 10 = .ok (.iload_n 0, 1) := by decide +kernel
theorem dJ6_bitCount_0f7a4_11 : decode cJ6_bitCount_0f7a4 11 = .ok (.ldc_w 266, 3) := by decide +kernel
theorem dJ6_bitCount_0f7a4_14 : decode cJ6_bitCount_0f7a4 14 = .ok (.iand, 1) := by decide +kernel
theorem dJ6_bitCount_0f7a4_15 : decode cJ6_bitCount_0f7a4 15 = .ok (.iload_n 0, 1) := by decide +kernel
theorem dJ6_bitCount_0f7a4_16 : decode cJ6_bitCount_0f7a4 16 = .ok (.iconst 2, 1) := by decide +kernel
theorem dJ6_bitCount_0f7a4_17 : decode cJ6_bitCount_0f7a4 17 = .ok (.iushr, 1) := by decide +kernel
theorem dJ6_bitCount_0f7a4_18 : decode cJ6_bitCount_0f7a4 18 = .ok (.ldc_w 266, 3) := by decide +kernel
theorem dJ6_bitCount_0f7a4_21 : decode cJ6_bitCount_0f7a4 21 = .ok (.iand, 1) := by decide +kernel
theorem dJ6_bitCount_0f7a4_22 : decode cJ6_bitCount_0f7a4 22 = .ok (.iadd, 1) := by decide +kernel
theorem dJ6_bitCount_0f7a4_23 : decode cJ6_bitCount_0f7a4 23 = .ok (.istore_n 0, 1) := by decide +kernel
theorem dJ6_bitCount_0f7a4_24 : decode cJ6_bitCount_0f7a4 24 = .ok (.iload_n 0, 1) := by decide +kernel
theorem dJ6_bitCount_0f7a4_25 : decode cJ6_bitCount_0f7a4 25 = .ok (.iload_n 0, 1) := by decide +kernel
theorem dJ6_bitCount_0f7a4_26 : decode cJ6_bitCount_0f7a4 26 = .ok (.iconst 4, 1) := by decide +kernel

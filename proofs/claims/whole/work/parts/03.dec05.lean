theorem dX12_number_36 : decode cX12_number 36 = .ok (.bipush 32, 2) := by decide +kernel
theorem dX12_number_38 : decode cX12_number 38 = .ok (.iload_n 1, 1) := by decide +kernel
theorem dX12_number_39 : decode cX12_number 39 = .ok (.iadd, 1) := by decide +kernel
theorem dX12_number_40 : decode cX12_number 40 = .ok (.aload_n 0, 1) := by decide +kernel
theorem dX12_number_41 : decode cX12_number 41 = .ok (.getfield 182, 3) := by decide +kernel
theorem dX12_number_44 : decode cX12_number 44 = .ok (.iastore, 1) := by decide +kernel
theorem dX12_number_45 : decode cX12_number 45 = .ok (.aload_n 0, 1) := by decide +kernel
theorem dX12_number_46 : decode cX12_number 46 = .ok (.invokevirtual 234, 3) := by decide +kernel
theorem dX12_number_49 : decode cX12_number 49 = .ok (.iconst 1, 1) := by decide +kernel
theorem dX12_number_50 : decode cX12_number 50 = .ok (.ireturn, 1) := by decide +kernel
theorem dX12_hour_0 : decode cX12_hour 0 = .ok (.aload_n 0, 1) := by decide +kernel
theorem dX12_hour_1 : decode cX12_hour 1 = .ok (.getfield 165, 3) := by decide +kernel
theorem dX12_hour_4 : decode cX12_hour 4 = .ok (.iconst 2, 1) := by decide +kernel
theorem dX12_hour_5 : decode cX12_hour 5 = .ok (.if_icmp .eq 9, 3) := by decide +kernel
theorem dX12_hour_8 : decode cX12_hour 8 = .ok (.aload_n 0, 1) := by decide +kernel
theorem dX12_hour_9 : decode cX12_hour 9 = .ok (.iconst 1, 1) := by decide +kernel
theorem dX12_hour_10 : decode cX12_hour 10 = .ok (.invokevirtual 231, 3) := by decide +kernel
theorem dX12_hour_13 : decode cX12_hour 13 = .ok (.ireturn, 1) := by decide +kernel
theorem dX12_hour_14 : decode cX12_hour 14 = .ok (.aload_n 0, 1) := by decide +kernel
theorem dX12_hour_15 : decode cX12_hour 15 = .ok (.getfield 182, 3) := by decide +kernel
theorem dX12_hour_18 : decode cX12_hour 18 = .ok (.bipush 23, 2) := by decide +kernel
theorem dX12_hour_20 : decode cX12_hour 20 = .ok (.if_icmp .le 9, 3) := by decide +kernel
theorem dX12_hour_23 : decode cX12_hour 23 = .ok (.aload_n 0, 1) := by decide +kernel
theorem dX12_hour_24 : decode cX12_hour 24 = .ok (.iconst 2, 1) := by decide +kernel
theorem dX12_hour_25 : decode cX12_hour 25 = .ok (.invokevirtual 231, 3) := by decide +kernel
theorem dX12_hour_28 : decode cX12_hour 28 = .ok (.ireturn, 1) := by decide +kernel
theorem dX12_hour_29 : decode cX12_hour 29 = .ok (.aload_n 0, 1) := by decide +kernel
theorem dX12_hour_30 : decode cX12_hour 30 = .ok (.getfield 60, 3) := by decide +kernel
theorem dX12_hour_33 : decode cX12_hour 33 = .ok (.iload_n 1, 1) := by decide +kernel
theorem dX12_hour_34 : decode cX12_hour 34 = .ok (.aload_n 0, 1) := by decide +kernel
theorem dX12_hour_35 : decode cX12_hour 35 = .ok (.getfield 182, 3) := by decide +kernel
theorem dX12_hour_38 : decode cX12_hour 38 = .ok (.iastore, 1) := by decide +kernel
theorem dX12_hour_39 : decode cX12_hour 39 = .ok (.aload_n 0, 1) := by decide +kernel
theorem dX12_hour_40 : decode cX12_hour 40 = .ok (.invokevirtual 234, 3) := by decide +kernel
theorem dX12_hour_43 : decode cX12_hour 43 = .ok (.iconst 1, 1) := by decide +kernel
theorem dX12_hour_44 : decode cX12_hour 44 = .ok (.ireturn, 1) := by decide +kernel
theorem dX12_word_0 : decode cX12_word 0 = .ok (.aload_n 0, 1) := by decide +kernel
theorem dX12_word_1 : decode cX12_word 1 = .ok (.getfield 165, 3) := by decide +kernel
theorem dX12_word_4 : decode cX12_word 4 = .ok (.iconst 1, 1) := by decide +kernel
theorem dX12_word_5 : decode cX12_word 5 = .ok (.if_icmp .ne 11, 3) := by decide +kernel
theorem dX12_word_8 : decode cX12_word 8 = .ok (.aload_n 0, 1) := by decide +kernel
theorem dX12_word_9 : decode cX12_word 9 = .ok (.getfield 176, 3) := by decide +kernel
theorem dX12_word_12 : decode cX12_word 12 = .ok (.iload_n 1, 1) := by decide +kernel
theorem dX12_word_13 : decode cX12_word 13 = .ok (.if_icmp .eq 9, 3) := by decide +kernel
theorem dX12_word_16 : decode cX12_word 16 = .ok (.aload_n 0, 1) := by decide +kernel
theorem dX12_word_17 : decode cX12_word 17 = .ok (.iconst 1, 1) := by decide +kernel
theorem dX12_word_18 : decode cX12_word 18 = .ok (.invokevirtual 231, 3) := by decide +kernel
theorem dX12_word_21 : decode cX12_word 21 = .ok (.ireturn, 1) := by decide +kernel
theorem dX12_word_22 : decode cX12_word 22 = .ok (.aload_n 0, 1) := by decide +kernel
theorem dX12_word_23 : decode cX12_word 23 = .ok (.invokevirtual 234, 3) := by decide +kernel
theorem dX12_word_26 : decode cX12_word 26 = .ok (.iconst 1, 1) := by decide +kernel
theorem dX12_word_27 : decode cX12_word 27 = .ok (.ireturn, 1) := by decide +kernel
theorem dX12_hasCry_0 : decode cX12_hasCry 0 = .ok (.aload_n 0, 1) := by decide +kernel
theorem dX12_hasCry_1 : decode cX12_hasCry 1 = .ok (.getfield 165, 3) := by decide +kernel
theorem dX12_hasCry_4 : decode cX12_hasCry 4 = .ok (.iconst 1, 1) := by decide +kernel
theorem dX12_hasCry_5 : decode cX12_hasCry 5 = .ok (.if_icmp .ne 16, 3) := by decide +kernel
theorem dX12_hasCry_8 : decode cX12_hasCry 8 = .ok (.aload_n 0, 1) := by decide +kernel
theorem dX12_hasCry_9 : decode cX12_hasCry 9 = .ok (.getfield 176, 3) := by decide +kernel
theorem dX12_hasCry_12 : decode cX12_hasCry 12 = .ok (.bipush 9, 2) := by decide +kernel
theorem dX12_hasCry_14 : decode cX12_hasCry 14 = .ok (.if_icmp .ne 7, 3) := by decide +kernel
theorem dX12_hasCry_17 : decode cX12_hasCry 17 = .ok (.iconst 1, 1) := by decide +kernel
theorem dX12_hasCry_18 : decode cX12_hasCry 18 = .ok (.goto 4, 3) := by decide +kernel
theorem dX12_hasCry_21 : decode cX12_hasCry 21 = .ok (.iconst 0, 1) := by decide +kernel
theorem dX12_hasCry_22 : decode cX12_hasCry 22 = .ok (.istore_n 1, 1) := by decide +kernel
theorem dX12_hasCry_23 : decode cX12_hasCry 23 = .ok (.iload_n 1, 1) := by decide +kernel
theorem dX12_hasCry_24 : decode cX12_hasCry 24 = .ok (.ifCond .eq 7, 3) := by decide +kernel
theorem dX12_hasCry_27 : decode cX12_hasCry 27 = .ok (.aload_n 0, 1) := by decide +kernel
theorem dX12_hasCry_28 : decode cX12_hasCry 28 = .ok (.invokevirtual 234, 3) := by decide +kernel
theorem dX12_hasCry_31 : decode cX12_hasCry 31 = .ok (.iload_n 1, 1) := by decide +kernel
theorem dX12_hasCry_32 : decode cX12_hasCry 32 = .ok (.ireturn, 1) := by decide +kernel
theorem dX12_readPower_0 : decode cX12_readPower 0 = .ok (.aload_n 0, 1) := by decide +kernel
theorem dX12_readPower_1 : decode cX12_readPower 1 = .ok (.getfield 63, 3) := by decide +kernel
theorem dX12_readPower_4 : decode cX12_readPower 4 = .ok (.iconst 4, 1) := by decide +kernel
theorem dX12_readPower_5 : decode cX12_readPower 5 = .ok (.iaload, 1) := by decide +kernel
theorem dX12_readPower_6 : decode cX12_readPower 6 = .ok (.bipush 12, 2) := by decide +kernel
theorem dX12_readPower_8 : decode cX12_readPower 8 = .ok (.if_icmp .ne 9, 3) := by decide +kernel
theorem dX12_readPower_11 : decode cX12_readPower 11 = .ok (.aload_n 0, 1) := by decide +kernel
theorem dX12_readPower_12 : decode cX12_readPower 12 = .ok (.iconst 4, 1) := by decide +kernel
theorem dX12_readPower_13 : decode cX12_readPower 13 = .ok (.invokevirtual 231, 3) := by decide +kernel
theorem dX12_readPower_16 : decode cX12_readPower 16 = .ok (.ireturn, 1) := by decide +kernel
theorem dX12_readPower_17 : decode cX12_readPower 17 = .ok (.iconst 4, 1) := by decide +kernel
theorem dX12_readPower_18 : decode cX12_readPower 18 = .ok (.bipush 48, 2) := by decide +kernel
theorem dX12_readPower_20 : decode cX12_readPower 20 = .ok (.aload_n 0, 1) := by decide +kernel
theorem dX12_readPower_21 : decode cX12_readPower 21 = .ok (.getfield 63, 3) := by decide +kernel
theorem dX12_readPower_24 : decode cX12_readPower 24 = .ok (.iconst 4, 1) := by decide +kernel
theorem dX12_readPower_25 : decode cX12_readPower 25 = .ok (.iaload, 1) := by decide +kernel
theorem dX12_readPower_26 : decode cX12_readPower 26 = .ok (.iadd, 1) := by decide +kernel
theorem dX12_readPower_27 : decode cX12_readPower 27 = .ok (.imul, 1) := by decide +kernel
theorem dX12_readPower_28 : decode cX12_readPower 28 = .ok (.istore_n 1, 1) := by decide +kernel
theorem dX12_readPower_29 : decode cX12_readPower 29 = .ok (.aload_n 0, 1) := by decide +kernel
theorem dX12_readPower_30 : decode cX12_readPower 30 = .ok (.invokevirtual 234, 3) := by decide +kernel
theorem dX12_readPower_33 : decode cX12_readPower 33 = .ok (.aload_n 0, 1) := by decide +kernel
theorem dX12_readPower_34 : decode cX12_readPower 34 = .ok (.getfield 165, 3) := by decide +kernel
theorem dX12_readPower_37 : decode cX12_readPower 37 = .ok (.iconst 1, 1) := by decide +kernel
theorem dX12_readPower_38 : decode cX12_readPower 38 = .ok (.if_icmp .ne 12, 3) := by decide +kernel
theorem dX12_readPower_41 : decode cX12_readPower 41 = .ok (.aload_n 0, 1) := by decide +kernel
theorem dX12_readPower_42 : decode cX12_readPower 42 = .ok (.getfield 176, 3) := by decide +kernel
theorem dX12_readPower_45 : decode cX12_readPower 45 = .ok (.bipush 10, 2) := by decide +kernel
theorem dX12_readPower_47 : decode cX12_readPower 47 = .ok (.if_icmp .ge 9, 3) := by decide +kernel
theorem dX12_readPower_50 : decode cX12_readPower 50 = .ok (.aload_n 0, 1) := by decide +kernel
theorem dX12_readPower_51 : decode cX12_readPower 51 = .ok (.iconst 1, 1) := by decide +kernel
theorem dX12_readPower_52 : decode cX12_readPower 52 = .ok (.invokevirtual 231, 3) := by decide +kernel
theorem dX12_readPower_55 : decode cX12_readPower 55 = .ok (.ireturn, 1) := by decide +kernel
theorem dX12_readPower_56 : decode cX12_readPower 56 = .ok (.aload_n 0, 1) := by decide +kernel
theorem dX12_readPower_57 : decode cX12_readPower 57 = .ok (.getfield 60, 3) := by decide +kernel
theorem dX12_readPower_60 : decode cX12_readPower 60 = .ok (.iload_n 1, 1) := by decide +kernel
theorem dX12_readPower_61 : decode cX12_readPower 61 = .ok (.aload_n 0, 1) := by decide +kernel
theorem dX12_readPower_62 : decode cX12_readPower 62 = .ok (.getfield 176, 3) := by decide +kernel
theorem dX12_readPower_65 : decode cX12_readPower 65 = .ok (.bipush 10, 2) := by decide +kernel
theorem dX12_readPower_67 : decode cX12_readPower 67 = .ok (.isub, 1) := by decide +kernel
theorem dX12_readPower_68 : decode cX12_readPower 68 = .ok (.iastore, 1) := by decide +kernel
theorem dX12_readPower_69 : decode cX12_readPower 69 = .ok (.aload_n 0, 1) := by decide +kernel
theorem dX12_readPower_70 : decode cX12_readPower 70 = .ok (.invokevirtual 234, 3) := by decide +kernel
theorem dX12_readPower_73 : decode cX12_readPower 73 = .ok (.aload_n 0, 1) := by decide +kernel
theorem dX12_readPower_74 : decode cX12_readPower 74 = .ok (.bipush 7, 2) := by decide +kernel
theorem dX12_readPower_76 : decode cX12_readPower 76 = .ok (.invokevirtual 237, 3) := by decide +kernel
theorem dX12_readPower_79 : decode cX12_readPower 79 = .ok (.ifCond .eq 32, 3) := by decide +kernel
theorem dX12_readPower_82 : decode cX12_readPower 82 = .ok (.aload_n 0, 1) := by decide +kernel
theorem dX12_readPower_83 : decode cX12_readPower 83 = .ok (.iload_n 1, 1) := by decide +kernel
theorem dX12_readPower_84 : decode cX12_readPower 84 = .ok (.iconst 1, 1) := by decide +kernel
theorem dX12_readPower_85 : decode cX12_readPower 85 = .ok (.iadd, 1) := by decide +kernel
theorem dX12_readPower_86 : decode cX12_readPower 86 = .ok (.invokevirtual 240, 3) := by decide +kernel
theorem dX12_readPower_89 : decode cX12_readPower 89 = .ok (.ifCond .eq 22, 3) := by decide +kernel
theorem dX12_readPower_92 : decode cX12_readPower 92 = .ok (.aload_n 0, 1) := by decide +kernel
theorem dX12_readPower_93 : decode cX12_readPower 93 = .ok (.bipush 8, 2) := by decide +kernel
theorem dX12_readPower_95 : decode cX12_readPower 95 = .ok (.invokevirtual 237, 3) := by decide +kernel
theorem dX12_readPower_98 : decode cX12_readPower 98 = .ok (.ifCond .eq 13, 3) := by decide +kernel
theorem dX12_readPower_101 : decode cX12_readPower 101 = .ok (.aload_n 0, 1) := by decide +kernel
theorem dX12_readPower_102 : decode cX12_readPower 102 = .ok (.iload_n 1, 1) := by decide +kernel
theorem dX12_readPower_103 : decode cX12_readPower 103 = .ok (.iconst 2, 1) := by decide +kernel
theorem dX12_readPower_104 : decode cX12_readPower 104 = .ok (.iadd, 1) := by decide +kernel
theorem dX12_readPower_105 : decode cX12_readPower 105 = .ok (.invokevirtual 240, 3) := by decide +kernel
theorem dX12_readPower_108 : decode cX12_readPower 108 = .ok (.ifCond .ne 5, 3) := by decide +kernel
theorem dX12_readPower_111 : decode cX12_readPower 111 = .ok (.iconst 0, 1) := by decide +kernel
theorem dX12_readPower_112 : decode cX12_readPower 112 = .ok (.ireturn, 1) := by decide +kernel
theorem dX12_readPower_113 : decode cX12_readPower 113 = .ok (.aload_n 0, 1) := by decide +kernel
theorem dX12_readPower_114 : decode cX12_readPower 114 = .ok (.getfield 60, 3) := by decide +kernel
theorem dX12_readPower_117 : decode cX12_readPower 117 = .ok (.iload_n 1, 1) := by decide +kernel
theorem dX12_readPower_118 : decode cX12_readPower 118 = .ok (.iconst 3, 1) := by decide +kernel
theorem dX12_readPower_119 : decode cX12_readPower 119 = .ok (.iadd, 1) := by decide +kernel
theorem dX12_readPower_120 : decode cX12_readPower 120 = .ok (.aload_n 0, 1) := by decide +kernel
theorem dX12_readPower_121 : decode cX12_readPower 121 = .ok (.invokevirtual 243, 3) := by decide +kernel
theorem dX12_readPower_124 : decode cX12_readPower 124 = .ok (.ifCond .eq 7, 3) := by decide +kernel
theorem dX12_readPower_127 : decode cX12_readPower 127 = .ok (.iconst 1, 1) := by decide +kernel
theorem dX12_readPower_128 : decode cX12_readPower 128 = .ok (.goto 4, 3) := by decide +kernel
theorem dX12_readPower_131 : decode cX12_readPower 131 = .ok (.iconst 0, 1) := by decide +kernel
theorem dX12_readPower_132 : decode cX12_readPower 132 = .ok (.iastore, 1) := by decide +kernel
theorem dX12_readPower_133 : decode cX12_readPower 133 = .ok (.aload_n 0, 1) := by decide +kernel
theorem dX12_readPower_134 : decode cX12_readPower 134 = .ok (.getfield 63, 3) := by decide +kernel
theorem dX12_readPower_137 : decode cX12_readPower 137 = .ok (.iconst 4, 1) := by decide +kernel
theorem dX12_readPower_138 : decode cX12_readPower 138 = .ok (.dup2, 1) := by decide +kernel
theorem dX12_readPower_139 : decode cX12_readPower 139 = .ok (.iaload, 1) := by decide +kernel
theorem dX12_readPower_140 : decode cX12_readPower 140 = .ok (.iconst 1, 1) := by decide +kernel
theorem dX12_readPower_141 : decode cX12_readPower 141 = .ok (.iadd, 1) := by decide +kernel
theorem dX12_readPower_142 : decode cX12_readPower 142 = .ok (.iastore, 1) := by decide +kernel
theorem dX12_readPower_143 : decode cX12_readPower 143 = .ok (.iconst 1, 1) := by decide +kernel
theorem dX12_readPower_144 : decode cX12_readPower 144 = .ok (.ireturn, 1) := by decide +kernel
theorem dX12_readLine_0 : decode cX12_readLine 0 = .ok (.aload_n 0, 1) := by decide +kernel
theorem dX12_readLine_1 : decode cX12_readLine 1 = .ok (.getfield 165, 3) := by decide +kernel
theorem dX12_readLine_4 : decode cX12_readLine 4 = .ok (.iconst 1, 1) := by decide +kernel
theorem dX12_readLine_5 : decode cX12_readLine 5 = .ok (.if_icmp .ne 12, 3) := by decide +kernel
theorem dX12_readLine_8 : decode cX12_readLine 8 = .ok (.aload_n 0, 1) := by decide +kernel
theorem dX12_readLine_9 : decode cX12_readLine 9 = .ok (.getfield 176, 3) := by decide +kernel
theorem dX12_readLine_12 : decode cX12_readLine 12 = .ok (.bipush 6, 2) := by decide +kernel
theorem dX12_readLine_14 : decode cX12_readLine 14 = .ok (.if_icmp .le 9, 3) := by decide +kernel
theorem dX12_readLine_17 : decode cX12_readLine 17 = .ok (.aload_n 0, 1) := by decide +kernel
theorem dX12_readLine_18 : decode cX12_readLine 18 = .ok (.iconst 1, 1) := by decide +kernel
theorem dX12_readLine_19 : decode cX12_readLine 19 = .ok (.invokevirtual 231, 3) := by decide +kernel
theorem dX12_readLine_22 : decode cX12_readLine 22 = .ok (.ireturn, 1) := by decide +kernel
theorem dX12_readLine_23 : decode cX12_readLine 23 = .ok (.aload_n 0, 1) := by decide +kernel
theorem dX12_readLine_24 : decode cX12_readLine 24 = .ok (.getfield 176, 3) := by decide +kernel
theorem dX12_readLine_27 : decode cX12_readLine 27 = .ok (.istore_n 2, 1) := by decide +kernel
theorem dX12_readLine_28 : decode cX12_readLine 28 = .ok (.iload_n 2, 1) := by decide +kernel
theorem dX12_readLine_29 : decode cX12_readLine 29 = .ok (.iconst 4, 1) := by decide +kernel
theorem dX12_readLine_30 : decode cX12_readLine 30 = .ok (.if_icmp .ne 8, 3) := by decide +kernel
theorem dX12_readLine_33 : decode cX12_readLine 33 = .ok (.aload_n 0, 1) := by decide +kernel
theorem dX12_readLine_34 : decode cX12_readLine 34 = .ok (.invokevirtual 247, 3) := by decide +kernel
theorem dX12_readLine_37 : decode cX12_readLine 37 = .ok (.ireturn, 1) := by decide +kernel
theorem dX12_readLine_38 : decode cX12_readLine 38 = .ok (.iload_n 1, 1) := by decide +kernel
theorem dX12_readLine_39 : decode cX12_readLine 39 = .ok (.iload_n 2, 1) := by decide +kernel
theorem dX12_readLine_40 : decode cX12_readLine 40 = .ok (.ishr, 1) := by decide +kernel
theorem dX12_readLine_41 : decode cX12_readLine 41 = .ok (.iconst 1, 1) := by decide +kernel
theorem dX12_readLine_42 : decode cX12_readLine 42 = .ok (.iand, 1) := by decide +kernel
theorem dX12_readLine_43 : decode cX12_readLine 43 = .ok (.iconst 1, 1) := by decide +kernel
theorem dX12_readLine_44 : decode cX12_readLine 44 = .ok (.if_icmp .ne 9, 3) := by decide +kernel
theorem dX12_readLine_47 : decode cX12_readLine 47 = .ok (.aload_n 0, 1) := by decide +kernel
theorem dX12_readLine_48 : decode cX12_readLine 48 = .ok (.iconst 3, 1) := by decide +kernel
theorem dX12_readLine_49 : decode cX12_readLine 49 = .ok (.invokevirtual 231, 3) := by decide +kernel
theorem dX12_readLine_52 : decode cX12_readLine 52 = .ok (.ireturn, 1) := by decide +kernel
theorem dX12_readLine_53 : decode cX12_readLine 53 = .ok (.aload_n 0, 1) := by decide +kernel
theorem dX12_readLine_54 : decode cX12_readLine 54 = .ok (.invokevirtual 234, 3) := by decide +kernel
theorem dX12_readLine_57 : decode cX12_readLine 57 = .ok (.iload_n 2, 1) := by decide +kernel
theorem dX12_readLine_58 : decode cX12_readLine 58 = .ok (.ifCond .ne 37, 3) := by decide +kernel
theorem dX12_readLine_61 : decode cX12_readLine 61 = .ok (.aload_n 0, 1) := by decide +kernel
theorem dX12_readLine_62 : decode cX12_readLine 62 = .ok (.iconst 0, 1) := by decide +kernel
theorem dX12_readLine_63 : decode cX12_readLine 63 = .ok (.iconst 0, 1) := by decide +kernel
theorem dX12_readLine_64 : decode cX12_readLine 64 = .ok (.bipush 99, 2) := by decide +kernel
theorem dX12_readLine_66 : decode cX12_readLine 66 = .ok (.invokevirtual 250, 3) := by decide +kernel
theorem dX12_readLine_69 : decode cX12_readLine 69 = .ok (.ifCond .eq 24, 3) := by decide +kernel
theorem dX12_readLine_72 : decode cX12_readLine 72 = .ok (.aload_n 0, 1) := by decide +kernel
theorem dX12_readLine_73 : decode cX12_readLine 73 = .ok (.iconst 1, 1) := by decide +kernel
theorem dX12_readLine_74 : decode cX12_readLine 74 = .ok (.aload_n 0, 1) := by decide +kernel
theorem dX12_readLine_75 : decode cX12_readLine 75 = .ok (.getfield 57, 3) := by decide +kernel
theorem dX12_readLine_78 : decode cX12_readLine 78 = .ok (.bipush 32, 2) := by decide +kernel
theorem dX12_readLine_80 : decode cX12_readLine 80 = .ok (.iaload, 1) := by decide +kernel
theorem dX12_readLine_81 : decode cX12_readLine 81 = .ok (.bipush 99, 2) := by decide +kernel
theorem dX12_readLine_83 : decode cX12_readLine 83 = .ok (.invokevirtual 250, 3) := by decide +kernel
theorem dX12_readLine_86 : decode cX12_readLine 86 = .ok (.ifCond .eq 7, 3) := by decide +kernel
theorem dX12_readLine_89 : decode cX12_readLine 89 = .ok (.iconst 1, 1) := by decide +kernel
theorem dX12_readLine_90 : decode cX12_readLine 90 = .ok (.goto 4, 3) := by decide +kernel
theorem dX12_readLine_93 : decode cX12_readLine 93 = .ok (.iconst 0, 1) := by decide +kernel
theorem dX12_readLine_94 : decode cX12_readLine 94 = .ok (.ireturn, 1) := by decide +kernel
theorem dX12_readLine_95 : decode cX12_readLine 95 = .ok (.iload_n 2, 1) := by decide +kernel
theorem dX12_readLine_96 : decode cX12_readLine 96 = .ok (.iconst 1, 1) := by decide +kernel
theorem dX12_readLine_97 : decode cX12_readLine 97 = .ok (.if_icmp .ne 12, 3) := by decide +kernel
theorem dX12_readLine_100 : decode cX12_readLine 100 = .ok (.aload_n 0, 1) := by decide +kernel
theorem dX12_readLine_101 : decode cX12_readLine 101 = .ok (.iconst 2, 1) := by decide +kernel
theorem dX12_readLine_102 : decode cX12_readLine 102 = .ok (.iconst 0, 1) := by decide +kernel
theorem dX12_readLine_103 : decode cX12_readLine 103 = .ok (.bipush 30, 2) := by decide +kernel
theorem dX12_readLine_105 : decode cX12_readLine 105 = .ok (.invokevirtual 250, 3) := by decide +kernel
theorem dX12_readLine_108 : decode cX12_readLine 108 = .ok (.ireturn, 1) := by decide +kernel
theorem dX12_readLine_109 : decode cX12_readLine 109 = .ok (.iload_n 2, 1) := by decide +kernel
theorem dX12_readLine_110 : decode cX12_readLine 110 = .ok (.iconst 2, 1) := by decide +kernel
theorem dX12_readLine_111 : decode cX12_readLine 111 = .ok (.if_icmp .eq 8, 3) := by decide +kernel
theorem dX12_readLine_114 : decode cX12_readLine 114 = .ok (.iload_n 2, 1) := by decide +kernel
theorem dX12_readLine_115 : decode cX12_readLine 115 = .ok (.iconst 3, 1) := by decide +kernel
theorem dX12_readLine_116 : decode cX12_readLine 116 = .ok (.if_icmp .ne 15, 3) := by decide +kernel
theorem dX12_readLine_119 : decode cX12_readLine 119 = .ok (.aload_n 0, 1) := by decide +kernel
theorem dX12_readLine_120 : decode cX12_readLine 120 = .ok (.iload_n 2, 1) := by decide +kernel
theorem dX12_readLine_121 : decode cX12_readLine 121 = .ok (.iconst 1, 1) := by decide +kernel
theorem dX12_readLine_122 : decode cX12_readLine 122 = .ok (.iadd, 1) := by decide +kernel
theorem dX12_readLine_123 : decode cX12_readLine 123 = .ok (.iconst 0, 1) := by decide +kernel
theorem dX12_readLine_124 : decode cX12_readLine 124 = .ok (.sipush 9999, 3) := by decide +kernel
theorem dX12_readLine_127 : decode cX12_readLine 127 = .ok (.invokevirtual 250, 3) := by decide +kernel
theorem dX12_readLine_130 : decode cX12_readLine 130 = .ok (.ireturn, 1) := by decide +kernel
theorem dX12_readLine_131 : decode cX12_readLine 131 = .ok (.iload_n 2, 1) := by decide +kernel
theorem dX12_readLine_132 : decode cX12_readLine 132 = .ok (.bipush 6, 2) := by decide +kernel
theorem dX12_readLine_134 : decode cX12_readLine 134 = .ok (.if_icmp .ne 13, 3) := by decide +kernel
theorem dX12_readLine_137 : decode cX12_readLine 137 = .ok (.aload_n 0, 1) := by decide +kernel
theorem dX12_readLine_138 : decode cX12_readLine 138 = .ok (.bipush 7, 2) := by decide +kernel
theorem dX12_readLine_140 : decode cX12_readLine 140 = .ok (.iconst 0, 1) := by decide +kernel
theorem dX12_readLine_141 : decode cX12_readLine 141 = .ok (.bipush 20, 2) := by decide +kernel
theorem dX12_readLine_143 : decode cX12_readLine 143 = .ok (.invokevirtual 250, 3) := by decide +kernel
theorem dX12_readLine_146 : decode cX12_readLine 146 = .ok (.ireturn, 1) := by decide +kernel
theorem dX12_readLine_147 : decode cX12_readLine 147 = .ok (.aload_n 0, 1) := by decide +kernel
theorem dX12_readLine_148 : decode cX12_readLine 148 = .ok (.iconst 5, 1) := by decide +kernel
theorem dX12_readLine_149 : decode cX12_readLine 149 = .ok (.iconst 0, 1) := by decide +kernel
theorem dX12_readLine_150 : decode cX12_readLine 150 = .ok (.sipush 999, 3) := by decide +kernel
theorem dX12_readLine_153 : decode cX12_readLine 153 = .ok (.invokevirtual 250, 3) := by decide +kernel
theorem dX12_readLine_156 : decode cX12_readLine 156 = .ok (.ifCond .ne 5, 3) := by decide +kernel
theorem dX12_readLine_159 : decode cX12_readLine 159 = .ok (.iconst 0, 1) := by decide +kernel
theorem dX12_readLine_160 : decode cX12_readLine 160 = .ok (.ireturn, 1) := by decide +kernel
theorem dX12_readLine_161 : decode cX12_readLine 161 = .ok (.aload_n 0, 1) := by decide +kernel
theorem dX12_readLine_162 : decode cX12_readLine 162 = .ok (.getfield 57, 3) := by decide +kernel
theorem dX12_readLine_165 : decode cX12_readLine 165 = .ok (.bipush 38, 2) := by decide +kernel
theorem dX12_readLine_167 : decode cX12_readLine 167 = .ok (.aload_n 0, 1) := by decide +kernel
theorem dX12_readLine_168 : decode cX12_readLine 168 = .ok (.invokevirtual 243, 3) := by decide +kernel
theorem dX12_readLine_171 : decode cX12_readLine 171 = .ok (.ifCond .eq 7, 3) := by decide +kernel
theorem dX12_readLine_174 : decode cX12_readLine 174 = .ok (.iconst 1, 1) := by decide +kernel
theorem dX12_readLine_175 : decode cX12_readLine 175 = .ok (.goto 4, 3) := by decide +kernel
theorem dX12_readLine_178 : decode cX12_readLine 178 = .ok (.iconst 0, 1) := by decide +kernel
theorem dX12_readLine_179 : decode cX12_readLine 179 = .ok (.iastore, 1) := by decide +kernel
theorem dX12_readLine_180 : decode cX12_readLine 180 = .ok (.iconst 1, 1) := by decide +kernel
theorem dX12_readLine_181 : decode cX12_readLine 181 = .ok (.ireturn, 1) := by decide +kernel
theorem dX12_laws_0 : decode cX12_laws 0 = .ok (.aload_n 0, 1) := by decide +kernel
theorem dX12_laws_1 : decode cX12_laws 1 = .ok (.aload_n 0, 1) := by decide +kernel
theorem dX12_laws_2 : decode cX12_laws 2 = .ok (.getfield 138, 3) := by decide +kernel
theorem dX12_laws_5 : decode cX12_laws 5 = .ok (.putfield 141, 3) := by decide +kernel
theorem dX12_laws_8 : decode cX12_laws 8 = .ok (.aload_n 0, 1) := by decide +kernel
theorem dX12_laws_9 : decode cX12_laws 9 = .ok (.iconst 0, 1) := by decide +kernel
theorem dX12_laws_10 : decode cX12_laws 10 = .ok (.putfield 138, 3) := by decide +kernel
theorem dX12_laws_13 : decode cX12_laws 13 = .ok (.iload_n 1, 1) := by decide +kernel
theorem dX12_laws_14 : decode cX12_laws 14 = .ok (.invokestatic 195, 3) := by decide +kernel
theorem dX12_laws_17 : decode cX12_laws 17 = .ok (.ifCond .ne 6, 3) := by decide +kernel
theorem dX12_laws_20 : decode cX12_laws 20 = .ok (.bipush (-2), 2) := by decide +kernel
theorem dX12_laws_22 : decode cX12_laws 22 = .ok (.ireturn, 1) := by decide +kernel
theorem dX12_laws_23 : decode cX12_laws 23 = .ok (.aload_n 0, 1) := by decide +kernel
theorem dX12_laws_24 : decode cX12_laws 24 = .ok (.iconst 0, 1) := by decide +kernel
theorem dX12_laws_25 : decode cX12_laws 25 = .ok (.putfield 185, 3) := by decide +kernel
theorem dX12_laws_28 : decode cX12_laws 28 = .ok (.aload_n 0, 1) := by decide +kernel
theorem dX12_laws_29 : decode cX12_laws 29 = .ok (.iconst (-1), 1) := by decide +kernel
theorem dX12_laws_30 : decode cX12_laws 30 = .ok (.putfield 13, 3) := by decide +kernel
theorem dX12_laws_33 : decode cX12_laws 33 = .ok (.iconst 0, 1) := by decide +kernel
theorem dX12_laws_34 : decode cX12_laws 34 = .ok (.istore_n 2, 1) := by decide +kernel
theorem dX12_laws_35 : decode cX12_laws 35 = .ok (.iload_n 2, 1) := by decide +kernel
theorem dX12_laws_36 : decode cX12_laws 36 = .ok (.bipush 8, 2) := by decide +kernel
theorem dX12_laws_38 : decode cX12_laws 38 = .ok (.if_icmp .ge 22, 3) := by decide +kernel
theorem dX12_laws_41 : decode cX12_laws 41 = .ok (.aload_n 0, 1) := by decide +kernel
theorem dX12_laws_42 : decode cX12_laws 42 = .ok (.getfield 57, 3) := by decide +kernel
theorem dX12_laws_45 : decode cX12_laws 45 = .ok (.bipush 32, 2) := by decide +kernel
theorem dX12_laws_47 : decode cX12_laws 47 = .ok (.iload_n 2, 1) := by decide +kernel
theorem dX12_laws_48 : decode cX12_laws 48 = .ok (.iadd, 1) := by decide +kernel
theorem dX12_laws_49 : decode cX12_laws 49 = .ok (.iload_n 2, 1) := by decide +kernel
theorem dX12_laws_50 : decode cX12_laws 50 = .ok (.invokestatic 131, 3) := by decide +kernel
theorem dX12_laws_53 : decode cX12_laws 53 = .ok (.iastore, 1) := by decide +kernel
theorem dX12_laws_54 : decode cX12_laws 54 = .ok (.iinc 2 1, 3) := by decide +kernel
theorem dX12_laws_57 : decode cX12_laws 57 = .ok (.goto (-22), 3) := by decide +kernel
theorem dX12_laws_60 : decode cX12_laws 60 = .ok (.aload_n 0, 1) := by decide +kernel
theorem dX12_laws_61 : decode cX12_laws 61 = .ok (.getfield 63, 3) := by decide +kernel
theorem dX12_laws_64 : decode cX12_laws 64 = .ok (.iconst 4, 1) := by decide +kernel
theorem dX12_laws_65 : decode cX12_laws 65 = .ok (.iconst 0, 1) := by decide +kernel
theorem dX12_laws_66 : decode cX12_laws 66 = .ok (.iastore, 1) := by decide +kernel
theorem dX12_laws_67 : decode cX12_laws 67 = .ok (.aload_n 0, 1) := by decide +kernel
theorem dX12_laws_68 : decode cX12_laws 68 = .ok (.iconst 0, 1) := by decide +kernel
theorem dX12_laws_69 : decode cX12_laws 69 = .ok (.putfield 159, 3) := by decide +kernel
theorem dX12_laws_72 : decode cX12_laws 72 = .ok (.aload_n 0, 1) := by decide +kernel
theorem dX12_laws_73 : decode cX12_laws 73 = .ok (.invokevirtual 234, 3) := by decide +kernel
theorem dX12_laws_76 : decode cX12_laws 76 = .ok (.iconst 0, 1) := by decide +kernel
theorem dX12_laws_77 : decode cX12_laws 77 = .ok (.istore_n 2, 1) := by decide +kernel
theorem dX12_laws_78 : decode cX12_laws 78 = .ok (.iconst 0, 1) := by decide +kernel
theorem dX12_laws_79 : decode cX12_laws 79 = .ok (.istore_n 3, 1) := by decide +kernel
theorem dX12_laws_80 : decode cX12_laws 80 = .ok (.aload_n 0, 1) := by decide +kernel
theorem dX12_laws_81 : decode cX12_laws 81 = .ok (.getfield 165, 3) := by decide +kernel
theorem dX12_laws_84 : decode cX12_laws 84 = .ok (.iconst 4, 1) := by decide +kernel
theorem dX12_laws_85 : decode cX12_laws 85 = .ok (.if_icmp .eq 87, 3) := by decide +kernel
theorem dX12_laws_88 : decode cX12_laws 88 = .ok (.aload_n 0, 1) := by decide +kernel
theorem dX12_laws_89 : decode cX12_laws 89 = .ok (.getfield 165, 3) := by decide +kernel
theorem dX12_laws_92 : decode cX12_laws 92 = .ok (.iconst 1, 1) := by decide +kernel
theorem dX12_laws_93 : decode cX12_laws 93 = .ok (.if_icmp .ne 21, 3) := by decide +kernel
theorem dX12_laws_96 : decode cX12_laws 96 = .ok (.aload_n 0, 1) := by decide +kernel
theorem dX12_laws_97 : decode cX12_laws 97 = .ok (.getfield 176, 3) := by decide +kernel
theorem dX12_laws_100 : decode cX12_laws 100 = .ok (.bipush 6, 2) := by decide +kernel
theorem dX12_laws_102 : decode cX12_laws 102 = .ok (.if_icmp .gt 12, 3) := by decide +kernel
theorem dX12_laws_105 : decode cX12_laws 105 = .ok (.iconst 1, 1) := by decide +kernel
theorem dX12_laws_106 : decode cX12_laws 106 = .ok (.aload_n 0, 1) := by decide +kernel
theorem dX12_laws_107 : decode cX12_laws 107 = .ok (.getfield 176, 3) := by decide +kernel
theorem dX12_laws_110 : decode cX12_laws 110 = .ok (.ishl, 1) := by decide +kernel
theorem dX12_laws_111 : decode cX12_laws 111 = .ok (.goto 4, 3) := by decide +kernel
theorem dX12_laws_114 : decode cX12_laws 114 = .ok (.iconst 0, 1) := by decide +kernel
theorem dX12_laws_115 : decode cX12_laws 115 = .ok (.istore 4, 2) := by decide +kernel
theorem dX12_laws_117 : decode cX12_laws 117 = .ok (.aload_n 0, 1) := by decide +kernel
theorem dX12_laws_118 : decode cX12_laws 118 = .ok (.iload_n 2, 1) := by decide +kernel
theorem dX12_laws_119 : decode cX12_laws 119 = .ok (.invokevirtual 253, 3) := by decide +kernel
theorem dX12_laws_122 : decode cX12_laws 122 = .ok (.ifCond .eq 11, 3) := by decide +kernel
theorem dX12_laws_125 : decode cX12_laws 125 = .ok (.aload_n 0, 1) := by decide +kernel
theorem dX12_laws_126 : decode cX12_laws 126 = .ok (.getfield 165, 3) := by decide +kernel
theorem dX12_laws_129 : decode cX12_laws 129 = .ok (.iconst 3, 1) := by decide +kernel
theorem dX12_laws_130 : decode cX12_laws 130 = .ok (.if_icmp .eq 27, 3) := by decide +kernel
theorem dX12_laws_133 : decode cX12_laws 133 = .ok (.aload_n 0, 1) := by decide +kernel
theorem dX12_laws_134 : decode cX12_laws 134 = .ok (.getfield 185, 3) := by decide +kernel
theorem dX12_laws_137 : decode cX12_laws 137 = .ok (.ifCond .gt 11, 3) := by decide +kernel
theorem dX12_laws_140 : decode cX12_laws 140 = .ok (.aload_n 0, 1) := by decide +kernel
theorem dX12_laws_141 : decode cX12_laws 141 = .ok (.iconst 1, 1) := by decide +kernel
theorem dX12_laws_142 : decode cX12_laws 142 = .ok (.invokevirtual 231, 3) := by decide +kernel
theorem dX12_laws_145 : decode cX12_laws 145 = .ok (.ifCond .eq 7, 3) := by decide +kernel
theorem dX12_laws_148 : decode cX12_laws 148 = .ok (.iconst 1, 1) := by decide +kernel
theorem dX12_laws_149 : decode cX12_laws 149 = .ok (.goto 4, 3) := by decide +kernel
theorem dX12_laws_152 : decode cX12_laws 152 = .ok (.iconst 0, 1) := by decide +kernel
theorem dX12_laws_153 : decode cX12_laws 153 = .ok (.istore 5, 2) := by decide +kernel
theorem dX12_laws_155 : decode cX12_laws 155 = .ok (.iconst (-1), 1) := by decide +kernel
theorem dX12_laws_156 : decode cX12_laws 156 = .ok (.ireturn, 1) := by decide +kernel
theorem dX12_laws_157 : decode cX12_laws 157 = .ok (.aload_n 0, 1) := by decide +kernel
theorem dX12_laws_158 : decode cX12_laws 158 = .ok (.invokevirtual 234, 3) := by decide +kernel
theorem dX12_laws_161 : decode cX12_laws 161 = .ok (.iload_n 2, 1) := by decide +kernel
theorem dX12_laws_162 : decode cX12_laws 162 = .ok (.iload 4, 2) := by decide +kernel
theorem dX12_laws_164 : decode cX12_laws 164 = .ok (.ior, 1) := by decide +kernel
theorem dX12_laws_165 : decode cX12_laws 165 = .ok (.istore_n 2, 1) := by decide +kernel
theorem dX12_laws_166 : decode cX12_laws 166 = .ok (.iinc 3 1, 3) := by decide +kernel
theorem dX12_laws_169 : decode cX12_laws 169 = .ok (.goto (-89), 3) := by decide +kernel
theorem dX12_laws_172 : decode cX12_laws 172 = .ok (.iconst 0, 1) := by decide +kernel
theorem dX12_laws_173 : decode cX12_laws 173 = .ok (.istore 4, 2) := by decide +kernel
theorem dX12_laws_175 : decode cX12_laws 175 = .ok (.iload 4, 2) := by decide +kernel
theorem dX12_laws_177 : decode cX12_laws 177 = .ok (.bipush 8, 2) := by decide +kernel
theorem dX12_laws_179 : decode cX12_laws 179 = .ok (.if_icmp .ge 31, 3) := by decide +kernel
theorem dX12_laws_182 : decode cX12_laws 182 = .ok (.aload_n 0, 1) := by decide +kernel
theorem dX12_laws_183 : decode cX12_laws 183 = .ok (.getfield 57, 3) := by decide +kernel
theorem dX12_laws_186 : decode cX12_laws 186 = .ok (.bipush 8, 2) := by decide +kernel
theorem dX12_laws_188 : decode cX12_laws 188 = .ok (.iload_n 1, 1) := by decide +kernel
theorem dX12_laws_189 : decode cX12_laws 189 = .ok (.imul, 1) := by decide +kernel
theorem dX12_laws_190 : decode cX12_laws 190 = .ok (.iload 4, 2) := by decide +kernel
theorem dX12_laws_192 : decode cX12_laws 192 = .ok (.iadd, 1) := by decide +kernel
theorem dX12_laws_193 : decode cX12_laws 193 = .ok (.aload_n 0, 1) := by decide +kernel
theorem dX12_laws_194 : decode cX12_laws 194 = .ok (.getfield 57, 3) := by decide +kernel
theorem dX12_laws_197 : decode cX12_laws 197 = .ok (.bipush 32, 2) := by decide +kernel
theorem dX12_laws_199 : decode cX12_laws 199 = .ok (.iload 4, 2) := by decide +kernel
theorem dX12_laws_201 : decode cX12_laws 201 = .ok (.iadd, 1) := by decide +kernel
theorem dX12_laws_202 : decode cX12_laws 202 = .ok (.iaload, 1) := by decide +kernel
theorem dX12_laws_203 : decode cX12_laws 203 = .ok (.iastore, 1) := by decide +kernel
theorem dX12_laws_204 : decode cX12_laws 204 = .ok (.iinc 4 1, 3) := by decide +kernel
theorem dX12_laws_207 : decode cX12_laws 207 = .ok (.goto (-32), 3) := by decide +kernel
theorem dX12_laws_210 : decode cX12_laws 210 = .ok (.aload_n 0, 1) := by decide +kernel
theorem dX12_laws_211 : decode cX12_laws 211 = .ok (.getfield 63, 3) := by decide +kernel
theorem dX12_laws_214 : decode cX12_laws 214 = .ok (.iload_n 1, 1) := by decide +kernel
theorem dX12_laws_215 : decode cX12_laws 215 = .ok (.aload_n 0, 1) := by decide +kernel
theorem dX12_laws_216 : decode cX12_laws 216 = .ok (.getfield 63, 3) := by decide +kernel
theorem dX12_laws_219 : decode cX12_laws 219 = .ok (.iconst 4, 1) := by decide +kernel
theorem dX12_laws_220 : decode cX12_laws 220 = .ok (.iaload, 1) := by decide +kernel
theorem dX12_laws_221 : decode cX12_laws 221 = .ok (.iastore, 1) := by decide +kernel
theorem dX12_laws_222 : decode cX12_laws 222 = .ok (.iconst 0, 1) := by decide +kernel
theorem dX12_laws_223 : decode cX12_laws 223 = .ok (.istore 4, 2) := by decide +kernel
theorem dX12_laws_225 : decode cX12_laws 225 = .ok (.iload 4, 2) := by decide +kernel
theorem dX12_laws_227 : decode cX12_laws 227 = .ok (.bipush 48, 2) := by decide +kernel
theorem dX12_laws_229 : decode cX12_laws 229 = .ok (.if_icmp .ge 32, 3) := by decide +kernel
theorem dX12_laws_232 : decode cX12_laws 232 = .ok (.aload_n 0, 1) := by decide +kernel
theorem dX12_laws_233 : decode cX12_laws 233 = .ok (.getfield 60, 3) := by decide +kernel
theorem dX12_laws_236 : decode cX12_laws 236 = .ok (.bipush 48, 2) := by decide +kernel
theorem dX12_laws_238 : decode cX12_laws 238 = .ok (.iload_n 1, 1) := by decide +kernel
theorem dX12_laws_239 : decode cX12_laws 239 = .ok (.imul, 1) := by decide +kernel
theorem dX12_laws_240 : decode cX12_laws 240 = .ok (.iload 4, 2) := by decide +kernel
theorem dX12_laws_242 : decode cX12_laws 242 = .ok (.iadd, 1) := by decide +kernel
theorem dX12_laws_243 : decode cX12_laws 243 = .ok (.aload_n 0, 1) := by decide +kernel
theorem dX12_laws_244 : decode cX12_laws 244 = .ok (.getfield 60, 3) := by decide +kernel
theorem dX12_laws_247 : decode cX12_laws 247 = .ok (.sipush 192, 3) := by decide +kernel
theorem dX12_laws_250 : decode cX12_laws 250 = .ok (.iload 4, 2) := by decide +kernel
theorem dX12_laws_252 : decode cX12_laws 252 = .ok (.iadd, 1) := by decide +kernel
theorem dX12_laws_253 : decode cX12_laws 253 = .ok (.iaload, 1) := by decide +kernel
theorem dX12_laws_254 : decode cX12_laws 254 = .ok (.iastore, 1) := by decide +kernel
theorem dX12_laws_255 : decode cX12_laws 255 = .ok (.iinc 4 1, 3) := by decide +kernel
theorem dX12_laws_258 : decode cX12_laws 258 = .ok (.goto (-33), 3) := by decide +kernel
theorem dX12_laws_261 : decode cX12_laws 261 = .ok (.iload_n 3, 1) := by decide +kernel
theorem dX12_laws_262 : decode cX12_laws 262 = .ok (.ireturn, 1) := by decide +kernel
theorem dX12_fault_0 : decode cX12_fault 0 = .ok (.iload_n 1, 1) := by decide +kernel
theorem dX12_fault_1 : decode cX12_fault 1 = .ok (.ifCond .ne 10, 3) := by decide +kernel
theorem dX12_fault_4 : decode cX12_fault 4 = .ok (.aload_n 0, 1) := by decide +kernel
theorem dX12_fault_5 : decode cX12_fault 5 = .ok (.getfield 185, 3) := by decide +kernel
theorem dX12_fault_8 : decode cX12_fault 8 = .ok (.goto 16, 3) := by decide +kernel
theorem dX12_fault_11 : decode cX12_fault 11 = .ok (.iload_n 1, 1) := by decide +kernel
theorem dX12_fault_12 : decode cX12_fault 12 = .ok (.iconst 1, 1) := by decide +kernel
theorem dX12_fault_13 : decode cX12_fault 13 = .ok (.if_icmp .ne 10, 3) := by decide +kernel
theorem dX12_fault_16 : decode cX12_fault 16 = .ok (.aload_n 0, 1) := by decide +kernel
theorem dX12_fault_17 : decode cX12_fault 17 = .ok (.getfield 13, 3) := by decide +kernel
theorem dX12_fault_20 : decode cX12_fault 20 = .ok (.goto 4, 3) := by decide +kernel
theorem dX12_fault_23 : decode cX12_fault 23 = .ok (.iconst (-1), 1) := by decide +kernel
theorem dX12_fault_24 : decode cX12_fault 24 = .ok (.ireturn, 1) := by decide +kernel
theorem dX12_law_0 : decode cX12_law 0 = .ok (.iload_n 1, 1) := by decide +kernel
theorem dX12_law_1 : decode cX12_law 1 = .ok (.invokestatic 195, 3) := by decide +kernel
theorem dX12_law_4 : decode cX12_law 4 = .ok (.ifCond .eq 13, 3) := by decide +kernel
theorem dX12_law_7 : decode cX12_law 7 = .ok (.iload_n 2, 1) := by decide +kernel
theorem dX12_law_8 : decode cX12_law 8 = .ok (.iconst 0, 1) := by decide +kernel
theorem dX12_law_9 : decode cX12_law 9 = .ok (.bipush 8, 2) := by decide +kernel
theorem dX12_law_11 : decode cX12_law 11 = .ok (.invokestatic 188, 3) := by decide +kernel
theorem dX12_law_14 : decode cX12_law 14 = .ok (.ifCond .ne 6, 3) := by decide +kernel
theorem dX12_law_17 : decode cX12_law 17 = .ok (.bipush (-9), 2) := by decide +kernel
theorem dX12_law_19 : decode cX12_law 19 = .ok (.ireturn, 1) := by decide +kernel
theorem dX12_law_20 : decode cX12_law 20 = .ok (.iload_n 2, 1) := by decide +kernel
theorem dX12_law_21 : decode cX12_law 21 = .ok (.bipush 8, 2) := by decide +kernel
theorem dX12_law_23 : decode cX12_law 23 = .ok (.if_icmp .ne 12, 3) := by decide +kernel
theorem dX12_law_26 : decode cX12_law 26 = .ok (.aload_n 0, 1) := by decide +kernel
theorem dX12_law_27 : decode cX12_law 27 = .ok (.getfield 63, 3) := by decide +kernel
theorem dX12_law_30 : decode cX12_law 30 = .ok (.iload_n 1, 1) := by decide +kernel
theorem dX12_law_31 : decode cX12_law 31 = .ok (.iaload, 1) := by decide +kernel
theorem dX12_law_32 : decode cX12_law 32 = .ok (.goto 14, 3) := by decide +kernel
theorem dX12_law_35 : decode cX12_law 35 = .ok (.aload_n 0, 1) := by decide +kernel
theorem dX12_law_36 : decode cX12_law 36 = .ok (.getfield 57, 3) := by decide +kernel
theorem dX12_law_39 : decode cX12_law 39 = .ok (.bipush 8, 2) := by decide +kernel
theorem dX12_law_41 : decode cX12_law 41 = .ok (.iload_n 1, 1) := by decide +kernel
theorem dX12_law_42 : decode cX12_law 42 = .ok (.imul, 1) := by decide +kernel
theorem dX12_law_43 : decode cX12_law 43 = .ok (.iload_n 2, 1) := by decide +kernel
theorem dX12_law_44 : decode cX12_law 44 = .ok (.iadd, 1) := by decide +kernel
theorem dX12_law_45 : decode cX12_law 45 = .ok (.iaload, 1) := by decide +kernel
theorem dX12_law_46 : decode cX12_law 46 = .ok (.ireturn, 1) := by decide +kernel
theorem dX12_isGiven_0 : decode cX12_isGiven 0 = .ok (.bipush 48, 2) := by decide +kernel
theorem dX12_isGiven_2 : decode cX12_isGiven 2 = .ok (.iload_n 1, 1) := by decide +kernel
theorem dX12_isGiven_3 : decode cX12_isGiven 3 = .ok (.imul, 1) := by decide +kernel
theorem dX12_isGiven_4 : decode cX12_isGiven 4 = .ok (.istore 5, 2) := by decide +kernel
theorem dX12_isGiven_6 : decode cX12_isGiven 6 = .ok (.iload 5, 2) := by decide +kernel
theorem dX12_isGiven_8 : decode cX12_isGiven 8 = .ok (.iconst 4, 1) := by decide +kernel
theorem dX12_isGiven_9 : decode cX12_isGiven 9 = .ok (.bipush 12, 2) := by decide +kernel
theorem dX12_isGiven_11 : decode cX12_isGiven 11 = .ok (.iload_n 1, 1) := by decide +kernel
theorem dX12_isGiven_12 : decode cX12_isGiven 12 = .ok (.imul, 1) := by decide +kernel
theorem dX12_isGiven_13 : decode cX12_isGiven 13 = .ok (.aload_n 0, 1) := by decide +kernel
theorem dX12_isGiven_14 : decode cX12_isGiven 14 = .ok (.getfield 63, 3) := by decide +kernel
theorem dX12_isGiven_17 : decode cX12_isGiven 17 = .ok (.iload_n 1, 1) := by decide +kernel
theorem dX12_isGiven_18 : decode cX12_isGiven 18 = .ok (.iaload, 1) := by decide +kernel
theorem dX12_isGiven_19 : decode cX12_isGiven 19 = .ok (.iadd, 1) := by decide +kernel
theorem dX12_isGiven_20 : decode cX12_isGiven 20 = .ok (.imul, 1) := by decide +kernel
theorem dX12_isGiven_21 : decode cX12_isGiven 21 = .ok (.if_icmp .ge 98, 3) := by decide +kernel
theorem dX12_isGiven_24 : decode cX12_isGiven 24 = .ok (.aload_n 0, 1) := by decide +kernel
theorem dX12_isGiven_25 : decode cX12_isGiven 25 = .ok (.getfield 60, 3) := by decide +kernel
theorem dX12_isGiven_28 : decode cX12_isGiven 28 = .ok (.iload 5, 2) := by decide +kernel
theorem dX12_isGiven_30 : decode cX12_isGiven 30 = .ok (.iaload, 1) := by decide +kernel
theorem dX12_isGiven_31 : decode cX12_isGiven 31 = .ok (.iload_n 2, 1) := by decide +kernel
theorem dX12_isGiven_32 : decode cX12_isGiven 32 = .ok (.if_icmp .ne 81, 3) := by decide +kernel
theorem dX12_isGiven_35 : decode cX12_isGiven 35 = .ok (.aload_n 0, 1) := by decide +kernel
theorem dX12_isGiven_36 : decode cX12_isGiven 36 = .ok (.getfield 60, 3) := by decide +kernel
theorem dX12_isGiven_39 : decode cX12_isGiven 39 = .ok (.iload 5, 2) := by decide +kernel
theorem dX12_isGiven_41 : decode cX12_isGiven 41 = .ok (.iconst 3, 1) := by decide +kernel
theorem dX12_isGiven_42 : decode cX12_isGiven 42 = .ok (.iadd, 1) := by decide +kernel
theorem dX12_isGiven_43 : decode cX12_isGiven 43 = .ok (.iaload, 1) := by decide +kernel
theorem dX12_isGiven_44 : decode cX12_isGiven 44 = .ok (.iconst 1, 1) := by decide +kernel
theorem dX12_isGiven_45 : decode cX12_isGiven 45 = .ok (.if_icmp .ne 11, 3) := by decide +kernel
theorem dX12_isGiven_48 : decode cX12_isGiven 48 = .ok (.iload 4, 2) := by decide +kernel
theorem dX12_isGiven_50 : decode cX12_isGiven 50 = .ok (.ifCond .ne 6, 3) := by decide +kernel
theorem dX12_isGiven_53 : decode cX12_isGiven 53 = .ok (.goto 60, 3) := by decide +kernel
theorem dX12_isGiven_56 : decode cX12_isGiven 56 = .ok (.aload_n 0, 1) := by decide +kernel
theorem dX12_isGiven_57 : decode cX12_isGiven 57 = .ok (.getfield 60, 3) := by decide +kernel
theorem dX12_isGiven_60 : decode cX12_isGiven 60 = .ok (.iload 5, 2) := by decide +kernel
theorem dX12_isGiven_62 : decode cX12_isGiven 62 = .ok (.iconst 1, 1) := by decide +kernel
theorem dX12_isGiven_63 : decode cX12_isGiven 63 = .ok (.iadd, 1) := by decide +kernel
theorem dX12_isGiven_64 : decode cX12_isGiven 64 = .ok (.iaload, 1) := by decide +kernel
theorem dX12_isGiven_65 : decode cX12_isGiven 65 = .ok (.istore 6, 2) := by decide +kernel
theorem dX12_isGiven_67 : decode cX12_isGiven 67 = .ok (.aload_n 0, 1) := by decide +kernel
theorem dX12_isGiven_68 : decode cX12_isGiven 68 = .ok (.getfield 60, 3) := by decide +kernel
theorem dX12_isGiven_71 : decode cX12_isGiven 71 = .ok (.iload 5, 2) := by decide +kernel
theorem dX12_isGiven_73 : decode cX12_isGiven 73 = .ok (.iconst 2, 1) := by decide +kernel
theorem dX12_isGiven_74 : decode cX12_isGiven 74 = .ok (.iadd, 1) := by decide +kernel
theorem dX12_isGiven_75 : decode cX12_isGiven 75 = .ok (.iaload, 1) := by decide +kernel
theorem dX12_isGiven_76 : decode cX12_isGiven 76 = .ok (.istore 7, 2) := by decide +kernel
theorem dX12_isGiven_78 : decode cX12_isGiven 78 = .ok (.iload 6, 2) := by decide +kernel
theorem dX12_isGiven_80 : decode cX12_isGiven 80 = .ok (.iload 7, 2) := by decide +kernel
theorem dX12_isGiven_82 : decode cX12_isGiven 82 = .ok (.if_icmp .gt 17, 3) := by decide +kernel
theorem dX12_isGiven_85 : decode cX12_isGiven 85 = .ok (.iload_n 3, 1) := by decide +kernel
theorem dX12_isGiven_86 : decode cX12_isGiven 86 = .ok (.iload 6, 2) := by decide +kernel
theorem dX12_isGiven_88 : decode cX12_isGiven 88 = .ok (.iload 7, 2) := by decide +kernel
theorem dX12_isGiven_90 : decode cX12_isGiven 90 = .ok (.invokestatic 188, 3) := by decide +kernel
theorem dX12_isGiven_93 : decode cX12_isGiven 93 = .ok (.ifCond .eq 20, 3) := by decide +kernel
theorem dX12_isGiven_96 : decode cX12_isGiven 96 = .ok (.goto 15, 3) := by decide +kernel
theorem dX12_isGiven_99 : decode cX12_isGiven 99 = .ok (.iload_n 3, 1) := by decide +kernel
theorem dX12_isGiven_100 : decode cX12_isGiven 100 = .ok (.iload 6, 2) := by decide +kernel
theorem dX12_isGiven_102 : decode cX12_isGiven 102 = .ok (.if_icmp .ge 9, 3) := by decide +kernel
theorem dX12_isGiven_105 : decode cX12_isGiven 105 = .ok (.iload_n 3, 1) := by decide +kernel
theorem dX12_isGiven_106 : decode cX12_isGiven 106 = .ok (.iload 7, 2) := by decide +kernel
theorem dX12_isGiven_108 : decode cX12_isGiven 108 = .ok (.if_icmp .gt 5, 3) := by decide +kernel
theorem dX12_isGiven_111 : decode cX12_isGiven 111 = .ok (.iconst 1, 1) := by decide +kernel
theorem dX12_isGiven_112 : decode cX12_isGiven 112 = .ok (.ireturn, 1) := by decide +kernel
theorem dX12_isGiven_113 : decode cX12_isGiven 113 = .ok (.iinc 5 4, 3) := by decide +kernel
theorem dX12_isGiven_116 : decode cX12_isGiven 116 = .ok (.goto (-110), 3) := by decide +kernel
theorem dX12_isGiven_119 : decode cX12_isGiven 119 = .ok (.iconst 0, 1) := by decide +kernel
theorem dX12_isGiven_120 : decode cX12_isGiven 120 = .ok (.ireturn, 1) := by decide +kernel
theorem dX12_may_0 : decode cX12_may 0 = .ok (.iload_n 1, 1) := by decide +kernel
theorem dX12_may_1 : decode cX12_may 1 = .ok (.invokestatic 195, 3) := by decide +kernel
theorem dX12_may_4 : decode cX12_may 4 = .ok (.ifCond .eq 22, 3) := by decide +kernel
theorem dX12_may_7 : decode cX12_may 7 = .ok (.iload_n 2, 1) := by decide +kernel
theorem dX12_may_8 : decode cX12_may 8 = .ok (.iconst 0, 1) := by decide +kernel
theorem dX12_may_9 : decode cX12_may 9 = .ok (.iconst 2, 1) := by decide +kernel
theorem dX12_may_10 : decode cX12_may 10 = .ok (.invokestatic 188, 3) := by decide +kernel
theorem dX12_may_13 : decode cX12_may 13 = .ok (.ifCond .eq 13, 3) := by decide +kernel
theorem dX12_may_16 : decode cX12_may 16 = .ok (.iload_n 3, 1) := by decide +kernel
theorem dX12_may_17 : decode cX12_may 17 = .ok (.iconst 0, 1) := by decide +kernel
theorem dX12_may_18 : decode cX12_may 18 = .ok (.bipush 23, 2) := by decide +kernel
theorem dX12_may_20 : decode cX12_may 20 = .ok (.invokestatic 188, 3) := by decide +kernel
theorem dX12_may_23 : decode cX12_may 23 = .ok (.ifCond .ne 6, 3) := by decide +kernel
theorem dX12_may_26 : decode cX12_may 26 = .ok (.bipush (-2), 2) := by decide +kernel
theorem dX12_may_28 : decode cX12_may 28 = .ok (.ireturn, 1) := by decide +kernel
theorem dX12_may_29 : decode cX12_may 29 = .ok (.aload_n 0, 1) := by decide +kernel
theorem dX12_may_30 : decode cX12_may 30 = .ok (.iload_n 1, 1) := by decide +kernel
theorem dX12_may_31 : decode cX12_may 31 = .ok (.iload_n 2, 1) := by decide +kernel
theorem dX12_may_32 : decode cX12_may 32 = .ok (.iload_n 3, 1) := by decide +kernel
theorem dX12_may_33 : decode cX12_may 33 = .ok (.iload 4, 2) := by decide +kernel
theorem dX12_may_35 : decode cX12_may 35 = .ok (.invokevirtual 256, 3) := by decide +kernel
theorem dX12_may_38 : decode cX12_may 38 = .ok (.ifCond .eq 7, 3) := by decide +kernel
theorem dX12_may_41 : decode cX12_may 41 = .ok (.iconst 1, 1) := by decide +kernel
theorem dX12_may_42 : decode cX12_may 42 = .ok (.goto 4, 3) := by decide +kernel
theorem dX12_may_45 : decode cX12_may 45 = .ok (.iconst 0, 1) := by decide +kernel
theorem dX12_may_46 : decode cX12_may 46 = .ok (.ireturn, 1) := by decide +kernel
theorem dX12_isHouse_0 : decode cX12_isHouse 0 = .ok (.iload_n 1, 1) := by decide +kernel
theorem dX12_isHouse_1 : decode cX12_isHouse 1 = .ok (.iconst 0, 1) := by decide +kernel
theorem dX12_isHouse_2 : decode cX12_isHouse 2 = .ok (.aload_n 0, 1) := by decide +kernel
theorem dX12_isHouse_3 : decode cX12_isHouse 3 = .ok (.getfield 260, 3) := by decide +kernel
theorem dX12_isHouse_6 : decode cX12_isHouse 6 = .ok (.iconst 1, 1) := by decide +kernel
theorem dX12_isHouse_7 : decode cX12_isHouse 7 = .ok (.isub, 1) := by decide +kernel
theorem dX12_isHouse_8 : decode cX12_isHouse 8 = .ok (.invokestatic 188, 3) := by decide +kernel
theorem dX12_isHouse_11 : decode cX12_isHouse 11 = .ok (.ireturn, 1) := by decide +kernel
theorem dX12_house_0 : decode cX12_house 0 = .ok (.iload_n 1, 1) := by decide +kernel
theorem dX12_house_1 : decode cX12_house 1 = .ok (.invokestatic 195, 3) := by decide +kernel
theorem dX12_house_4 : decode cX12_house 4 = .ok (.ifCond .eq 16, 3) := by decide +kernel
theorem dX12_house_7 : decode cX12_house 7 = .ok (.iload_n 2, 1) := by decide +kernel
theorem dX12_house_8 : decode cX12_house 8 = .ok (.sipush 1500, 3) := by decide +kernel
theorem dX12_house_11 : decode cX12_house 11 = .ok (.sipush 1799, 3) := by decide +kernel
theorem dX12_house_14 : decode cX12_house 14 = .ok (.invokestatic 188, 3) := by decide +kernel
theorem dX12_house_17 : decode cX12_house 17 = .ok (.ifCond .ne 6, 3) := by decide +kernel
theorem dX12_house_20 : decode cX12_house 20 = .ok (.bipush (-2), 2) := by decide +kernel
theorem dX12_house_22 : decode cX12_house 22 = .ok (.ireturn, 1) := by decide +kernel
theorem dX12_house_23 : decode cX12_house 23 = .ok (.aload_n 0, 1) := by decide +kernel
theorem dX12_house_24 : decode cX12_house 24 = .ok (.getfield 260, 3) := by decide +kernel
theorem dX12_house_27 : decode cX12_house 27 = .ok (.bipush 60, 2) := by decide +kernel
theorem dX12_house_29 : decode cX12_house 29 = .ok (.if_icmp .ne 6, 3) := by decide +kernel
theorem dX12_house_32 : decode cX12_house 32 = .ok (.bipush (-3), 2) := by decide +kernel
theorem dX12_house_34 : decode cX12_house 34 = .ok (.ireturn, 1) := by decide +kernel
theorem dX12_house_35 : decode cX12_house 35 = .ok (.aload_n 0, 1) := by decide +kernel
theorem dX12_house_36 : decode cX12_house 36 = .ok (.getfield 66, 3) := by decide +kernel
theorem dX12_house_39 : decode cX12_house 39 = .ok (.aload_n 0, 1) := by decide +kernel
theorem dX12_house_40 : decode cX12_house 40 = .ok (.getfield 260, 3) := by decide +kernel
theorem dX12_house_43 : decode cX12_house 43 = .ok (.iload_n 1, 1) := by decide +kernel
theorem dX12_house_44 : decode cX12_house 44 = .ok (.iastore, 1) := by decide +kernel
theorem dX12_house_45 : decode cX12_house 45 = .ok (.aload_n 0, 1) := by decide +kernel
theorem dX12_house_46 : decode cX12_house 46 = .ok (.getfield 69, 3) := by decide +kernel
theorem dX12_house_49 : decode cX12_house 49 = .ok (.aload_n 0, 1) := by decide +kernel
theorem dX12_house_50 : decode cX12_house 50 = .ok (.getfield 260, 3) := by decide +kernel
theorem dX12_house_53 : decode cX12_house 53 = .ok (.iload_n 2, 1) := by decide +kernel
theorem dX12_house_54 : decode cX12_house 54 = .ok (.iastore, 1) := by decide +kernel
theorem dX12_house_55 : decode cX12_house 55 = .ok (.aload_n 0, 1) := by decide +kernel
theorem dX12_house_56 : decode cX12_house 56 = .ok (.getfield 78, 3) := by decide +kernel
theorem dX12_house_59 : decode cX12_house 59 = .ok (.aload_n 0, 1) := by decide +kernel
theorem dX12_house_60 : decode cX12_house 60 = .ok (.getfield 260, 3) := by decide +kernel
theorem dX12_house_63 : decode cX12_house 63 = .ok (.iconst (-1), 1) := by decide +kernel
theorem dX12_house_64 : decode cX12_house 64 = .ok (.iastore, 1) := by decide +kernel
theorem dX12_house_65 : decode cX12_house 65 = .ok (.aload_n 0, 1) := by decide +kernel
theorem dX12_house_66 : decode cX12_house 66 = .ok (.dup, 1) := by decide +kernel
theorem dX12_house_67 : decode cX12_house 67 = .ok (.getfield 260, 3) := by decide +kernel
theorem dX12_house_70 : decode cX12_house 70 = .ok (.iconst 1, 1) := by decide +kernel
theorem dX12_house_71 : decode cX12_house 71 = .ok (.iadd, 1) := by decide +kernel
theorem dX12_house_72 : decode cX12_house 72 = .ok (.putfield 260, 3) := by decide +kernel
theorem dX12_house_75 : decode cX12_house 75 = .ok (.aload_n 0, 1) := by decide +kernel
theorem dX12_house_76 : decode cX12_house 76 = .ok (.getfield 260, 3) := by decide +kernel
theorem dX12_house_79 : decode cX12_house 79 = .ok (.iconst 1, 1) := by decide +kernel
theorem dX12_house_80 : decode cX12_house 80 = .ok (.isub, 1) := by decide +kernel
theorem dX12_house_81 : decode cX12_house 81 = .ok (.ireturn, 1) := by decide +kernel
theorem dX12_purse_0 : decode cX12_purse 0 = .ok (.aload_n 0, 1) := by decide +kernel
theorem dX12_purse_1 : decode cX12_purse 1 = .ok (.iload_n 1, 1) := by decide +kernel
theorem dX12_purse_2 : decode cX12_purse 2 = .ok (.invokevirtual 263, 3) := by decide +kernel
theorem dX12_purse_5 : decode cX12_purse 5 = .ok (.ifCond .eq 27, 3) := by decide +kernel
theorem dX12_purse_8 : decode cX12_purse 8 = .ok (.iload_n 2, 1) := by decide +kernel
theorem dX12_purse_9 : decode cX12_purse 9 = .ok (.iconst 1, 1) := by decide +kernel
theorem dX12_purse_10 : decode cX12_purse 10 = .ok (.ldc_w 266, 3) := by decide +kernel
theorem dX12_purse_13 : decode cX12_purse 13 = .ok (.invokestatic 188, 3) := by decide +kernel
theorem dX12_purse_16 : decode cX12_purse 16 = .ok (.ifCond .eq 16, 3) := by decide +kernel
theorem dX12_purse_19 : decode cX12_purse 19 = .ok (.aload_n 0, 1) := by decide +kernel
theorem dX12_purse_20 : decode cX12_purse 20 = .ok (.getfield 72, 3) := by decide +kernel
theorem dX12_purse_23 : decode cX12_purse 23 = .ok (.iload_n 1, 1) := by decide +kernel
theorem dX12_purse_24 : decode cX12_purse 24 = .ok (.iaload, 1) := by decide +kernel
theorem dX12_purse_25 : decode cX12_purse 25 = .ok (.iload_n 2, 1) := by decide +kernel
theorem dX12_purse_26 : decode cX12_purse 26 = .ok (.iadd, 1) := by decide +kernel
theorem dX12_purse_27 : decode cX12_purse 27 = .ok (.ldc 198, 2) := by decide +kernel
theorem dX12_purse_29 : decode cX12_purse 29 = .ok (.if_icmp .le 6, 3) := by decide +kernel
theorem dX12_purse_32 : decode cX12_purse 32 = .ok (.bipush (-2), 2) := by decide +kernel
theorem dX12_purse_34 : decode cX12_purse 34 = .ok (.ireturn, 1) := by decide +kernel
theorem dX12_purse_35 : decode cX12_purse 35 = .ok (.aload_n 0, 1) := by decide +kernel
theorem dX12_purse_36 : decode cX12_purse 36 = .ok (.getfield 72, 3) := by decide +kernel
theorem dX12_purse_39 : decode cX12_purse 39 = .ok (.iload_n 1, 1) := by decide +kernel
theorem dX12_purse_40 : decode cX12_purse 40 = .ok (.dup2, 1) := by decide +kernel
theorem dX12_purse_41 : decode cX12_purse 41 = .ok (.iaload, 1) := by decide +kernel
theorem dX12_purse_42 : decode cX12_purse 42 = .ok (.iload_n 2, 1) := by decide +kernel
theorem dX12_purse_43 : decode cX12_purse 43 = .ok (.iadd, 1) := by decide +kernel
theorem dX12_purse_44 : decode cX12_purse 44 = .ok (.iastore, 1) := by decide +kernel
theorem dX12_purse_45 : decode cX12_purse 45 = .ok (.aload_n 0, 1) := by decide +kernel
theorem dX12_purse_46 : decode cX12_purse 46 = .ok (.getfield 72, 3) := by decide +kernel
theorem dX12_purse_49 : decode cX12_purse 49 = .ok (.iload_n 1, 1) := by decide +kernel
theorem dX12_purse_50 : decode cX12_purse 50 = .ok (.iaload, 1) := by decide +kernel
theorem dX12_purse_51 : decode cX12_purse 51 = .ok (.ireturn, 1) := by decide +kernel
theorem dX12_would_0 : decode cX12_would 0 = .ok (.aload_n 0, 1) := by decide +kernel
theorem dX12_would_1 : decode cX12_would 1 = .ok (.iload_n 1, 1) := by decide +kernel
theorem dX12_would_2 : decode cX12_would 2 = .ok (.invokevirtual 263, 3) := by decide +kernel
theorem dX12_would_5 : decode cX12_would 5 = .ok (.ifCond .eq 12, 3) := by decide +kernel
theorem dX12_would_8 : decode cX12_would 8 = .ok (.iload_n 2, 1) := by decide +kernel
theorem dX12_would_9 : decode cX12_would 9 = .ok (.iconst 0, 1) := by decide +kernel
theorem dX12_would_10 : decode cX12_would 10 = .ok (.iconst 2, 1) := by decide +kernel
theorem dX12_would_11 : decode cX12_would 11 = .ok (.invokestatic 188, 3) := by decide +kernel
theorem dX12_would_14 : decode cX12_would 14 = .ok (.ifCond .ne 6, 3) := by decide +kernel
theorem dX12_would_17 : decode cX12_would 17 = .ok (.bipush (-2), 2) := by decide +kernel
theorem dX12_would_19 : decode cX12_would 19 = .ok (.ireturn, 1) := by decide +kernel
theorem dX12_would_20 : decode cX12_would 20 = .ok (.aload_n 0, 1) := by decide +kernel
theorem dX12_would_21 : decode cX12_would 21 = .ok (.getfield 75, 3) := by decide +kernel
theorem dX12_would_24 : decode cX12_would 24 = .ok (.iload_n 1, 1) := by decide +kernel
theorem dX12_would_25 : decode cX12_would 25 = .ok (.iaload, 1) := by decide +kernel
theorem dX12_would_26 : decode cX12_would 26 = .ok (.istore_n 3, 1) := by decide +kernel
theorem dX12_would_27 : decode cX12_would 27 = .ok (.aload_n 0, 1) := by decide +kernel
theorem dX12_would_28 : decode cX12_would 28 = .ok (.getfield 75, 3) := by decide +kernel
theorem dX12_would_31 : decode cX12_would 31 = .ok (.iload_n 1, 1) := by decide +kernel
theorem dX12_would_32 : decode cX12_would 32 = .ok (.iload_n 2, 1) := by decide +kernel
theorem dX12_would_33 : decode cX12_would 33 = .ok (.iastore, 1) := by decide +kernel
theorem dX12_would_34 : decode cX12_would 34 = .ok (.iload_n 3, 1) := by decide +kernel
theorem dX12_would_35 : decode cX12_would 35 = .ok (.ireturn, 1) := by decide +kernel
theorem dX12_fill_0 : decode cX12_fill 0 = .ok (.iload_n 1, 1) := by decide +kernel
theorem dX12_fill_1 : decode cX12_fill 1 = .ok (.invokestatic 195, 3) := by decide +kernel
theorem dX12_fill_4 : decode cX12_fill 4 = .ok (.ifCond .ne 6, 3) := by decide +kernel
theorem dX12_fill_7 : decode cX12_fill 7 = .ok (.bipush (-2), 2) := by decide +kernel
theorem dX12_fill_9 : decode cX12_fill 9 = .ok (.ireturn, 1) := by decide +kernel
theorem dX12_fill_10 : decode cX12_fill 10 = .ok (.aload_n 0, 1) := by decide +kernel
theorem dX12_fill_11 : decode cX12_fill 11 = .ok (.getfield 84, 3) := by decide +kernel
theorem dX12_fill_14 : decode cX12_fill 14 = .ok (.iload_n 1, 1) := by decide +kernel
theorem dX12_fill_15 : decode cX12_fill 15 = .ok (.iaload, 1) := by decide +kernel
theorem dX12_fill_16 : decode cX12_fill 16 = .ok (.iconst (-1), 1) := by decide +kernel
theorem dX12_fill_17 : decode cX12_fill 17 = .ok (.if_icmp .ne 7, 3) := by decide +kernel
theorem dX12_fill_20 : decode cX12_fill 20 = .ok (.iconst 1, 1) := by decide +kernel
theorem dX12_fill_21 : decode cX12_fill 21 = .ok (.goto 4, 3) := by decide +kernel
theorem dX12_fill_24 : decode cX12_fill 24 = .ok (.iconst 0, 1) := by decide +kernel
theorem dX12_fill_25 : decode cX12_fill 25 = .ok (.istore_n 3, 1) := by decide +kernel
theorem dX12_fill_26 : decode cX12_fill 26 = .ok (.iload_n 3, 1) := by decide +kernel
theorem dX12_fill_27 : decode cX12_fill 27 = .ok (.ifCond .eq 7, 3) := by decide +kernel
theorem dX12_fill_30 : decode cX12_fill 30 = .ok (.iload_n 2, 1) := by decide +kernel
theorem dX12_fill_31 : decode cX12_fill 31 = .ok (.goto 11, 3) := by decide +kernel
theorem dX12_fill_34 : decode cX12_fill 34 = .ok (.aload_n 0, 1) := by decide +kernel
theorem dX12_fill_35 : decode cX12_fill 35 = .ok (.getfield 84, 3) := by decide +kernel
theorem dX12_fill_38 : decode cX12_fill 38 = .ok (.iload_n 1, 1) := by decide +kernel
theorem dX12_fill_39 : decode cX12_fill 39 = .ok (.iaload, 1) := by decide +kernel
theorem dX12_fill_40 : decode cX12_fill 40 = .ok (.iconst 1, 1) := by decide +kernel
theorem dX12_fill_41 : decode cX12_fill 41 = .ok (.iadd, 1) := by decide +kernel
theorem dX12_fill_42 : decode cX12_fill 42 = .ok (.istore 4, 2) := by decide +kernel
theorem dX12_fill_44 : decode cX12_fill 44 = .ok (.iload 4, 2) := by decide +kernel
theorem dX12_fill_46 : decode cX12_fill 46 = .ok (.sipush 1600, 3) := by decide +kernel
theorem dX12_fill_49 : decode cX12_fill 49 = .ok (.sipush 1799, 3) := by decide +kernel
theorem dX12_fill_52 : decode cX12_fill 52 = .ok (.invokestatic 188, 3) := by decide +kernel
theorem dX12_fill_55 : decode cX12_fill 55 = .ok (.ifCond .eq 18, 3) := by decide +kernel
theorem dX12_fill_58 : decode cX12_fill 58 = .ok (.iload_n 3, 1) := by decide +kernel
theorem dX12_fill_59 : decode cX12_fill 59 = .ok (.ifCond .ne 17, 3) := by decide +kernel
theorem dX12_fill_62 : decode cX12_fill 62 = .ok (.iload_n 2, 1) := by decide +kernel
theorem dX12_fill_63 : decode cX12_fill 63 = .ok (.iconst (-1), 1) := by decide +kernel
theorem dX12_fill_64 : decode cX12_fill 64 = .ok (.if_icmp .eq 12, 3) := by decide +kernel
theorem dX12_fill_67 : decode cX12_fill 67 = .ok (.iload_n 2, 1) := by decide +kernel
theorem dX12_fill_68 : decode cX12_fill 68 = .ok (.iload 4, 2) := by decide +kernel
theorem dX12_fill_70 : decode cX12_fill 70 = .ok (.if_icmp .eq 6, 3) := by decide +kernel
theorem dX12_fill_73 : decode cX12_fill 73 = .ok (.bipush (-2), 2) := by decide +kernel
theorem dX12_fill_75 : decode cX12_fill 75 = .ok (.ireturn, 1) := by decide +kernel
theorem dX12_fill_76 : decode cX12_fill 76 = .ok (.iload_n 3, 1) := by decide +kernel
theorem dX12_fill_77 : decode cX12_fill 77 = .ok (.ifCond .eq 11, 3) := by decide +kernel
theorem dX12_fill_80 : decode cX12_fill 80 = .ok (.aload_n 0, 1) := by decide +kernel
theorem dX12_fill_81 : decode cX12_fill 81 = .ok (.getfield 90, 3) := by decide +kernel
theorem dX12_fill_84 : decode cX12_fill 84 = .ok (.iload_n 1, 1) := by decide +kernel
theorem dX12_fill_85 : decode cX12_fill 85 = .ok (.iload 4, 2) := by decide +kernel
theorem dX12_fill_87 : decode cX12_fill 87 = .ok (.iastore, 1) := by decide +kernel
theorem dX12_fill_88 : decode cX12_fill 88 = .ok (.aload_n 0, 1) := by decide +kernel
theorem dX12_fill_89 : decode cX12_fill 89 = .ok (.getfield 84, 3) := by decide +kernel
theorem dX12_fill_92 : decode cX12_fill 92 = .ok (.iload_n 1, 1) := by decide +kernel
theorem dX12_fill_93 : decode cX12_fill 93 = .ok (.iload 4, 2) := by decide +kernel
theorem dX12_fill_95 : decode cX12_fill 95 = .ok (.iastore, 1) := by decide +kernel
theorem dX12_fill_96 : decode cX12_fill 96 = .ok (.sipush 200, 3) := by decide +kernel
theorem dX12_fill_99 : decode cX12_fill 99 = .ok (.iload_n 1, 1) := by decide +kernel
theorem dX12_fill_100 : decode cX12_fill 100 = .ok (.imul, 1) := by decide +kernel
theorem dX12_fill_101 : decode cX12_fill 101 = .ok (.iload 4, 2) := by decide +kernel
theorem dX12_fill_103 : decode cX12_fill 103 = .ok (.iadd, 1) := by decide +kernel
theorem dX12_fill_104 : decode cX12_fill 104 = .ok (.sipush 1600, 3) := by decide +kernel
theorem dX12_fill_107 : decode cX12_fill 107 = .ok (.isub, 1) := by decide +kernel
theorem dX12_fill_108 : decode cX12_fill 108 = .ok (.istore 5, 2) := by decide +kernel
theorem dX12_fill_110 : decode cX12_fill 110 = .ok (.aload_n 0, 1) := by decide +kernel
theorem dX12_fill_111 : decode cX12_fill 111 = .ok (.getfield 93, 3) := by decide +kernel
theorem dX12_fill_114 : decode cX12_fill 114 = .ok (.iload 5, 2) := by decide +kernel
theorem dX12_fill_116 : decode cX12_fill 116 = .ok (.iconst (-1), 1) := by decide +kernel
theorem dX12_fill_117 : decode cX12_fill 117 = .ok (.iastore, 1) := by decide +kernel
theorem dX12_fill_118 : decode cX12_fill 118 = .ok (.aload_n 0, 1) := by decide +kernel
theorem dX12_fill_119 : decode cX12_fill 119 = .ok (.getfield 96, 3) := by decide +kernel
theorem dX12_fill_122 : decode cX12_fill 122 = .ok (.iload 5, 2) := by decide +kernel
theorem dX12_fill_124 : decode cX12_fill 124 = .ok (.iconst 0, 1) := by decide +kernel
theorem dX12_fill_125 : decode cX12_fill 125 = .ok (.bastore, 1) := by decide +kernel
theorem dX12_fill_126 : decode cX12_fill 126 = .ok (.aload_n 0, 1) := by decide +kernel
theorem dX12_fill_127 : decode cX12_fill 127 = .ok (.getfield 100, 3) := by decide +kernel
theorem dX12_fill_130 : decode cX12_fill 130 = .ok (.iload 5, 2) := by decide +kernel
theorem dX12_fill_132 : decode cX12_fill 132 = .ok (.iconst 0, 1) := by decide +kernel
theorem dX12_fill_133 : decode cX12_fill 133 = .ok (.iastore, 1) := by decide +kernel
theorem dX12_fill_134 : decode cX12_fill 134 = .ok (.aload_n 0, 1) := by decide +kernel
theorem dX12_fill_135 : decode cX12_fill 135 = .ok (.getfield 87, 3) := by decide +kernel
theorem dX12_fill_138 : decode cX12_fill 138 = .ok (.iload_n 1, 1) := by decide +kernel
theorem dX12_fill_139 : decode cX12_fill 139 = .ok (.iaload, 1) := by decide +kernel
theorem dX12_fill_140 : decode cX12_fill 140 = .ok (.iconst 1, 1) := by decide +kernel
theorem dX12_fill_141 : decode cX12_fill 141 = .ok (.iadd, 1) := by decide +kernel
theorem dX12_fill_142 : decode cX12_fill 142 = .ok (.istore 6, 2) := by decide +kernel
theorem dX12_fill_144 : decode cX12_fill 144 = .ok (.iconst 0, 1) := by decide +kernel
theorem dX12_fill_145 : decode cX12_fill 145 = .ok (.istore 7, 2) := by decide +kernel
theorem dX12_fill_147 : decode cX12_fill 147 = .ok (.iload 7, 2) := by decide +kernel
theorem dX12_fill_149 : decode cX12_fill 149 = .ok (.aload_n 0, 1) := by decide +kernel
theorem dX12_fill_150 : decode cX12_fill 150 = .ok (.getfield 260, 3) := by decide +kernel
theorem dX12_fill_153 : decode cX12_fill 153 = .ok (.if_icmp .ge 128, 3) := by decide +kernel
theorem dX12_fill_156 : decode cX12_fill 156 = .ok (.aload_n 0, 1) := by decide +kernel
theorem dX12_fill_157 : decode cX12_fill 157 = .ok (.getfield 93, 3) := by decide +kernel
theorem dX12_fill_160 : decode cX12_fill 160 = .ok (.iload 5, 2) := by decide +kernel
theorem dX12_fill_162 : decode cX12_fill 162 = .ok (.iaload, 1) := by decide +kernel
theorem dX12_fill_163 : decode cX12_fill 163 = .ok (.iconst (-1), 1) := by decide +kernel
theorem dX12_fill_164 : decode cX12_fill 164 = .ok (.if_icmp .ne 117, 3) := by decide +kernel
theorem dX12_fill_167 : decode cX12_fill 167 = .ok (.iload 6, 2) := by decide +kernel
theorem dX12_fill_169 : decode cX12_fill 169 = .ok (.iload 7, 2) := by decide +kernel
theorem dX12_fill_171 : decode cX12_fill 171 = .ok (.iadd, 1) := by decide +kernel
theorem dX12_fill_172 : decode cX12_fill 172 = .ok (.aload_n 0, 1) := by decide +kernel
theorem dX12_fill_173 : decode cX12_fill 173 = .ok (.getfield 260, 3) := by decide +kernel
theorem dX12_fill_176 : decode cX12_fill 176 = .ok (.irem, 1) := by decide +kernel
theorem dX12_fill_177 : decode cX12_fill 177 = .ok (.istore 8, 2) := by decide +kernel
theorem dX12_fill_179 : decode cX12_fill 179 = .ok (.aload_n 0, 1) := by decide +kernel
theorem dX12_fill_180 : decode cX12_fill 180 = .ok (.getfield 66, 3) := by decide +kernel
theorem dX12_fill_183 : decode cX12_fill 183 = .ok (.iload 8, 2) := by decide +kernel
theorem dX12_fill_185 : decode cX12_fill 185 = .ok (.iaload, 1) := by decide +kernel
theorem dX12_fill_186 : decode cX12_fill 186 = .ok (.iload_n 1, 1) := by decide +kernel
theorem dX12_fill_187 : decode cX12_fill 187 = .ok (.if_icmp .ne 88, 3) := by decide +kernel
theorem dX12_fill_190 : decode cX12_fill 190 = .ok (.iload 4, 2) := by decide +kernel
theorem dX12_fill_192 : decode cX12_fill 192 = .ok (.aload_n 0, 1) := by decide +kernel
theorem dX12_fill_193 : decode cX12_fill 193 = .ok (.getfield 69, 3) := by decide +kernel
theorem dX12_fill_196 : decode cX12_fill 196 = .ok (.iload 8, 2) := by decide +kernel
theorem dX12_fill_198 : decode cX12_fill 198 = .ok (.iaload, 1) := by decide +kernel
theorem dX12_fill_199 : decode cX12_fill 199 = .ok (.isub, 1) := by decide +kernel
theorem dX12_fill_200 : decode cX12_fill 200 = .ok (.aload_n 0, 1) := by decide +kernel
theorem dX12_fill_201 : decode cX12_fill 201 = .ok (.getfield 57, 3) := by decide +kernel
theorem dX12_fill_204 : decode cX12_fill 204 = .ok (.bipush 8, 2) := by decide +kernel
theorem dX12_fill_206 : decode cX12_fill 206 = .ok (.iload_n 1, 1) := by decide +kernel
theorem dX12_fill_207 : decode cX12_fill 207 = .ok (.imul, 1) := by decide +kernel
theorem dX12_fill_208 : decode cX12_fill 208 = .ok (.iaload, 1) := by decide +kernel
theorem dX12_fill_209 : decode cX12_fill 209 = .ok (.aload_n 0, 1) := by decide +kernel
theorem dX12_fill_210 : decode cX12_fill 210 = .ok (.getfield 57, 3) := by decide +kernel
theorem dX12_fill_213 : decode cX12_fill 213 = .ok (.bipush 8, 2) := by decide +kernel
theorem dX12_fill_215 : decode cX12_fill 215 = .ok (.iload_n 1, 1) := by decide +kernel
theorem dX12_fill_216 : decode cX12_fill 216 = .ok (.imul, 1) := by decide +kernel
theorem dX12_fill_217 : decode cX12_fill 217 = .ok (.iconst 1, 1) := by decide +kernel
theorem dX12_fill_218 : decode cX12_fill 218 = .ok (.iadd, 1) := by decide +kernel
theorem dX12_fill_219 : decode cX12_fill 219 = .ok (.iaload, 1) := by decide +kernel
theorem dX12_fill_220 : decode cX12_fill 220 = .ok (.invokestatic 188, 3) := by decide +kernel
theorem dX12_fill_223 : decode cX12_fill 223 = .ok (.ifCond .eq 52, 3) := by decide +kernel
theorem dX12_fill_226 : decode cX12_fill 226 = .ok (.aload_n 0, 1) := by decide +kernel
theorem dX12_fill_227 : decode cX12_fill 227 = .ok (.getfield 78, 3) := by decide +kernel
theorem dX12_fill_230 : decode cX12_fill 230 = .ok (.iload 8, 2) := by decide +kernel
theorem dX12_fill_232 : decode cX12_fill 232 = .ok (.iaload, 1) := by decide +kernel
theorem dX12_fill_233 : decode cX12_fill 233 = .ok (.iconst (-1), 1) := by decide +kernel
theorem dX12_fill_234 : decode cX12_fill 234 = .ok (.if_icmp .eq 30, 3) := by decide +kernel
theorem dX12_fill_237 : decode cX12_fill 237 = .ok (.iload 4, 2) := by decide +kernel
theorem dX12_fill_239 : decode cX12_fill 239 = .ok (.aload_n 0, 1) := by decide +kernel
theorem dX12_fill_240 : decode cX12_fill 240 = .ok (.getfield 78, 3) := by decide +kernel
theorem dX12_fill_243 : decode cX12_fill 243 = .ok (.iload 8, 2) := by decide +kernel
theorem dX12_fill_245 : decode cX12_fill 245 = .ok (.iaload, 1) := by decide +kernel
theorem dX12_fill_246 : decode cX12_fill 246 = .ok (.isub, 1) := by decide +kernel
theorem dX12_fill_247 : decode cX12_fill 247 = .ok (.aload_n 0, 1) := by decide +kernel
theorem dX12_fill_248 : decode cX12_fill 248 = .ok (.getfield 57, 3) := by decide +kernel
theorem dX12_fill_251 : decode cX12_fill 251 = .ok (.bipush 8, 2) := by decide +kernel
theorem dX12_fill_253 : decode cX12_fill 253 = .ok (.iload_n 1, 1) := by decide +kernel
theorem dX12_fill_254 : decode cX12_fill 254 = .ok (.imul, 1) := by decide +kernel
theorem dX12_fill_255 : decode cX12_fill 255 = .ok (.iconst 2, 1) := by decide +kernel
theorem dX12_fill_256 : decode cX12_fill 256 = .ok (.iadd, 1) := by decide +kernel
theorem dX12_fill_257 : decode cX12_fill 257 = .ok (.iaload, 1) := by decide +kernel
theorem dX12_fill_258 : decode cX12_fill 258 = .ok (.if_icmp .gt 6, 3) := by decide +kernel
theorem dX12_fill_261 : decode cX12_fill 261 = .ok (.goto 14, 3) := by decide +kernel
theorem dX12_fill_264 : decode cX12_fill 264 = .ok (.aload_n 0, 1) := by decide +kernel
theorem dX12_fill_265 : decode cX12_fill 265 = .ok (.iload 8, 2) := by decide +kernel
theorem dX12_fill_267 : decode cX12_fill 267 = .ok (.iload_n 1, 1) := by decide +kernel
theorem dX12_fill_268 : decode cX12_fill 268 = .ok (.iload 5, 2) := by decide +kernel
theorem dX12_fill_270 : decode cX12_fill 270 = .ok (.iload 4, 2) := by decide +kernel
theorem dX12_fill_272 : decode cX12_fill 272 = .ok (.invokevirtual 267, 3) := by decide +kernel
theorem dX12_fill_275 : decode cX12_fill 275 = .ok (.iinc 7 1, 3) := by decide +kernel
theorem dX12_fill_278 : decode cX12_fill 278 = .ok (.goto (-131), 3) := by decide +kernel
theorem dX12_fill_281 : decode cX12_fill 281 = .ok (.aload_n 0, 1) := by decide +kernel
theorem dX12_fill_282 : decode cX12_fill 282 = .ok (.getfield 93, 3) := by decide +kernel
theorem dX12_fill_285 : decode cX12_fill 285 = .ok (.iload 5, 2) := by decide +kernel
theorem dX12_fill_287 : decode cX12_fill 287 = .ok (.iaload, 1) := by decide +kernel
theorem dX12_fill_288 : decode cX12_fill 288 = .ok (.ireturn, 1) := by decide +kernel
theorem dX12_turns_0 : decode cX12_turns 0 = .ok (.aload_n 0, 1) := by decide +kernel
theorem dX12_turns_1 : decode cX12_turns 1 = .ok (.getfield 57, 3) := by decide +kernel
theorem dX12_turns_4 : decode cX12_turns 4 = .ok (.bipush 8, 2) := by decide +kernel
theorem dX12_turns_6 : decode cX12_turns 6 = .ok (.iload_n 2, 1) := by decide +kernel
theorem dX12_turns_7 : decode cX12_turns 7 = .ok (.imul, 1) := by decide +kernel
theorem dX12_turns_8 : decode cX12_turns 8 = .ok (.iconst 4, 1) := by decide +kernel
theorem dX12_turns_9 : decode cX12_turns 9 = .ok (.iadd, 1) := by decide +kernel
theorem dX12_turns_10 : decode cX12_turns 10 = .ok (.iaload, 1) := by decide +kernel
theorem dX12_turns_11 : decode cX12_turns 11 = .ok (.istore 5, 2) := by decide +kernel
theorem dX12_turns_13 : decode cX12_turns 13 = .ok (.aload_n 0, 1) := by decide +kernel
theorem dX12_turns_14 : decode cX12_turns 14 = .ok (.getfield 57, 3) := by decide +kernel
theorem dX12_turns_17 : decode cX12_turns 17 = .ok (.bipush 8, 2) := by decide +kernel
theorem dX12_turns_19 : decode cX12_turns 19 = .ok (.iload_n 2, 1) := by decide +kernel
theorem dX12_turns_20 : decode cX12_turns 20 = .ok (.imul, 1) := by decide +kernel
theorem dX12_turns_21 : decode cX12_turns 21 = .ok (.iconst 3, 1) := by decide +kernel
theorem dX12_turns_22 : decode cX12_turns 22 = .ok (.iadd, 1) := by decide +kernel
theorem dX12_turns_23 : decode cX12_turns 23 = .ok (.iaload, 1) := by decide +kernel
theorem dX12_turns_24 : decode cX12_turns 24 = .ok (.istore 6, 2) := by decide +kernel
theorem dX12_turns_26 : decode cX12_turns 26 = .ok (.aload_n 0, 1) := by decide +kernel
theorem dX12_turns_27 : decode cX12_turns 27 = .ok (.getfield 78, 3) := by decide +kernel
theorem dX12_turns_30 : decode cX12_turns 30 = .ok (.iload_n 1, 1) := by decide +kernel
theorem dX12_turns_31 : decode cX12_turns 31 = .ok (.iload 4, 2) := by decide +kernel
theorem dX12_turns_33 : decode cX12_turns 33 = .ok (.iastore, 1) := by decide +kernel
theorem dX12_turns_34 : decode cX12_turns 34 = .ok (.aload_n 0, 1) := by decide +kernel
theorem dX12_turns_35 : decode cX12_turns 35 = .ok (.getfield 81, 3) := by decide +kernel
theorem dX12_turns_38 : decode cX12_turns 38 = .ok (.iload_n 1, 1) := by decide +kernel
theorem dX12_turns_39 : decode cX12_turns 39 = .ok (.dup2, 1) := by decide +kernel
theorem dX12_turns_40 : decode cX12_turns 40 = .ok (.iaload, 1) := by decide +kernel
theorem dX12_turns_41 : decode cX12_turns 41 = .ok (.iconst 1, 1) := by decide +kernel
theorem dX12_turns_42 : decode cX12_turns 42 = .ok (.iadd, 1) := by decide +kernel
theorem dX12_turns_43 : decode cX12_turns 43 = .ok (.iastore, 1) := by decide +kernel
theorem dX12_turns_44 : decode cX12_turns 44 = .ok (.aload_n 0, 1) := by decide +kernel
theorem dX12_turns_45 : decode cX12_turns 45 = .ok (.getfield 87, 3) := by decide +kernel
theorem dX12_turns_48 : decode cX12_turns 48 = .ok (.iload_n 2, 1) := by decide +kernel
theorem dX12_turns_49 : decode cX12_turns 49 = .ok (.iload_n 1, 1) := by decide +kernel
theorem dX12_turns_50 : decode cX12_turns 50 = .ok (.iastore, 1) := by decide +kernel
theorem dX12_turns_51 : decode cX12_turns 51 = .ok (.aload_n 0, 1) := by decide +kernel
theorem dX12_turns_52 : decode cX12_turns 52 = .ok (.getfield 75, 3) := by decide +kernel
theorem dX12_turns_55 : decode cX12_turns 55 = .ok (.iload_n 1, 1) := by decide +kernel
theorem dX12_turns_56 : decode cX12_turns 56 = .ok (.iaload, 1) := by decide +kernel
theorem dX12_turns_57 : decode cX12_turns 57 = .ok (.iconst 2, 1) := by decide +kernel
theorem dX12_turns_58 : decode cX12_turns 58 = .ok (.if_icmp .ne 47, 3) := by decide +kernel
theorem dX12_turns_61 : decode cX12_turns 61 = .ok (.aload_n 0, 1) := by decide +kernel
theorem dX12_turns_62 : decode cX12_turns 62 = .ok (.getfield 72, 3) := by decide +kernel
theorem dX12_turns_65 : decode cX12_turns 65 = .ok (.iload_n 1, 1) := by decide +kernel
theorem dX12_turns_66 : decode cX12_turns 66 = .ok (.iaload, 1) := by decide +kernel
theorem dX12_turns_67 : decode cX12_turns 67 = .ok (.iload 6, 2) := by decide +kernel
theorem dX12_turns_69 : decode cX12_turns 69 = .ok (.if_icmp .lt 36, 3) := by decide +kernel
theorem dX12_turns_72 : decode cX12_turns 72 = .ok (.aload_n 0, 1) := by decide +kernel
theorem dX12_turns_73 : decode cX12_turns 73 = .ok (.getfield 72, 3) := by decide +kernel
theorem dX12_turns_76 : decode cX12_turns 76 = .ok (.iload_n 1, 1) := by decide +kernel
theorem dX12_turns_77 : decode cX12_turns 77 = .ok (.dup2, 1) := by decide +kernel
theorem dX12_turns_78 : decode cX12_turns 78 = .ok (.iaload, 1) := by decide +kernel
theorem dX12_turns_79 : decode cX12_turns 79 = .ok (.iload 6, 2) := by decide +kernel
theorem dX12_turns_81 : decode cX12_turns 81 = .ok (.isub, 1) := by decide +kernel
theorem dX12_turns_82 : decode cX12_turns 82 = .ok (.iastore, 1) := by decide +kernel
theorem dX12_turns_83 : decode cX12_turns 83 = .ok (.aload_n 0, 1) := by decide +kernel
theorem dX12_turns_84 : decode cX12_turns 84 = .ok (.getfield 103, 3) := by decide +kernel
theorem dX12_turns_87 : decode cX12_turns 87 = .ok (.iload_n 2, 1) := by decide +kernel
theorem dX12_turns_88 : decode cX12_turns 88 = .ok (.dup2, 1) := by decide +kernel
theorem dX12_turns_89 : decode cX12_turns 89 = .ok (.iaload, 1) := by decide +kernel
theorem dX12_turns_90 : decode cX12_turns 90 = .ok (.iload 6, 2) := by decide +kernel
theorem dX12_turns_92 : decode cX12_turns 92 = .ok (.iadd, 1) := by decide +kernel
theorem dX12_turns_93 : decode cX12_turns 93 = .ok (.iastore, 1) := by decide +kernel
theorem dX12_turns_94 : decode cX12_turns 94 = .ok (.aload_n 0, 1) := by decide +kernel
theorem dX12_turns_95 : decode cX12_turns 95 = .ok (.getfield 100, 3) := by decide +kernel
theorem dX12_turns_98 : decode cX12_turns 98 = .ok (.iload_n 3, 1) := by decide +kernel
theorem dX12_turns_99 : decode cX12_turns 99 = .ok (.dup2, 1) := by decide +kernel
theorem dX12_turns_100 : decode cX12_turns 100 = .ok (.iaload, 1) := by decide +kernel
theorem dX12_turns_101 : decode cX12_turns 101 = .ok (.iconst 1, 1) := by decide +kernel
theorem dX12_turns_102 : decode cX12_turns 102 = .ok (.iadd, 1) := by decide +kernel
theorem dX12_turns_103 : decode cX12_turns 103 = .ok (.iastore, 1) := by decide +kernel
theorem dX12_turns_104 : decode cX12_turns 104 = .ok (.return_, 1) := by decide +kernel
theorem dX12_turns_105 : decode cX12_turns 105 = .ok (.aload_n 0, 1) := by decide +kernel
theorem dX12_turns_106 : decode cX12_turns 106 = .ok (.getfield 93, 3) := by decide +kernel
theorem dX12_turns_109 : decode cX12_turns 109 = .ok (.iload_n 3, 1) := by decide +kernel
theorem dX12_turns_110 : decode cX12_turns 110 = .ok (.iload_n 1, 1) := by decide +kernel
theorem dX12_turns_111 : decode cX12_turns 111 = .ok (.iastore, 1) := by decide +kernel
theorem dX12_turns_112 : decode cX12_turns 112 = .ok (.aload_n 0, 1) := by decide +kernel
theorem dX12_turns_113 : decode cX12_turns 113 = .ok (.getfield 75, 3) := by decide +kernel
theorem dX12_turns_116 : decode cX12_turns 116 = .ok (.iload_n 1, 1) := by decide +kernel
theorem dX12_turns_117 : decode cX12_turns 117 = .ok (.iaload, 1) := by decide +kernel

theorem dX0_init_0 : decode cX0_init 0 = .ok (.aload_n 0, 1) := by decide +kernel
theorem dX0_init_1 : decode cX0_init 1 = .ok (.invokespecial 3, 3) := by decide +kernel
theorem dX0_init_4 : decode cX0_init 4 = .ok (.aload_n 0, 1) := by decide +kernel
theorem dX0_init_5 : decode cX0_init 5 = .ok (.iconst 0, 1) := by decide +kernel
theorem dX0_init_6 : decode cX0_init 6 = .ok (.putfield 11, 3) := by decide +kernel
theorem dX0_init_9 : decode cX0_init 9 = .ok (.aload_n 0, 1) := by decide +kernel
theorem dX0_init_10 : decode cX0_init 10 = .ok (.iconst (-1), 1) := by decide +kernel
theorem dX0_init_11 : decode cX0_init 11 = .ok (.putfield 15, 3) := by decide +kernel
theorem dX0_init_14 : decode cX0_init 14 = .ok (.aload_n 0, 1) := by decide +kernel
theorem dX0_init_15 : decode cX0_init 15 = .ok (.iload_n 1, 1) := by decide +kernel
theorem dX0_init_16 : decode cX0_init 16 = .ok (.putfield 18, 3) := by decide +kernel
theorem dX0_init_19 : decode cX0_init 19 = .ok (.aload_n 0, 1) := by decide +kernel
theorem dX0_init_20 : decode cX0_init 20 = .ok (.iload_n 2, 1) := by decide +kernel
theorem dX0_init_21 : decode cX0_init 21 = .ok (.putfield 21, 3) := by decide +kernel
theorem dX0_init_24 : decode cX0_init 24 = .ok (.aload_n 0, 1) := by decide +kernel
theorem dX0_init_25 : decode cX0_init 25 = .ok (.iload_n 3, 1) := by decide +kernel
theorem dX0_init_26 : decode cX0_init 26 = .ok (.putfield 24, 3) := by decide +kernel
theorem dX0_init_29 : decode cX0_init 29 = .ok (.return_, 1) := by decide +kernel
theorem dX0_tell_0 : decode cX0_tell 0 = .ok (.iload_n 1, 1) := by decide +kernel
theorem dX0_tell_1 : decode cX0_tell 1 = .ok (.tableswitch 60 0 4 #[35, 40, 45, 50, 55], 35) := by decide +kernel
theorem dX0_tell_36 : decode cX0_tell 36 = .ok (.aload_n 0, 1) := by decide +kernel
theorem dX0_tell_37 : decode cX0_tell 37 = .ok (.getfield 18, 3) := by decide +kernel
theorem dX0_tell_40 : decode cX0_tell 40 = .ok (.ireturn, 1) := by decide +kernel
theorem dX0_tell_41 : decode cX0_tell 41 = .ok (.aload_n 0, 1) := by decide +kernel
theorem dX0_tell_42 : decode cX0_tell 42 = .ok (.getfield 21, 3) := by decide +kernel
theorem dX0_tell_45 : decode cX0_tell 45 = .ok (.ireturn, 1) := by decide +kernel
theorem dX0_tell_46 : decode cX0_tell 46 = .ok (.aload_n 0, 1) := by decide +kernel
theorem dX0_tell_47 : decode cX0_tell 47 = .ok (.getfield 24, 3) := by decide +kernel
theorem dX0_tell_50 : decode cX0_tell 50 = .ok (.ireturn, 1) := by decide +kernel
theorem dX0_tell_51 : decode cX0_tell 51 = .ok (.aload_n 0, 1) := by decide +kernel
theorem dX0_tell_52 : decode cX0_tell 52 = .ok (.getfield 11, 3) := by decide +kernel
theorem dX0_tell_55 : decode cX0_tell 55 = .ok (.ireturn, 1) := by decide +kernel
theorem dX0_tell_56 : decode cX0_tell 56 = .ok (.aload_n 0, 1) := by decide +kernel
theorem dX0_tell_57 : decode cX0_tell 57 = .ok (.getfield 15, 3) := by decide +kernel
theorem dX0_tell_60 : decode cX0_tell 60 = .ok (.ireturn, 1) := by decide +kernel
theorem dX0_tell_61 : decode cX0_tell 61 = .ok (.iconst (-1), 1) := by decide +kernel
theorem dX0_tell_62 : decode cX0_tell 62 = .ok (.ireturn, 1) := by decide +kernel
theorem dX1_init_0 : decode cX1_init 0 = .ok (.aload_n 0, 1) := by decide +kernel
theorem dX1_init_1 : decode cX1_init 1 = .ok (.invokespecial 3, 3) := by decide +kernel
theorem dX1_init_4 : decode cX1_init 4 = .ok (.aload_n 0, 1) := by decide +kernel
theorem dX1_init_5 : decode cX1_init 5 = .ok (.bipush 10, 2) := by decide +kernel
theorem dX1_init_7 : decode cX1_init 7 = .ok (.newarray .int, 2) := by decide +kernel
theorem dX1_init_9 : decode cX1_init 9 = .ok (.putfield 11, 3) := by decide +kernel
theorem dX1_init_12 : decode cX1_init 12 = .ok (.aload_n 0, 1) := by decide +kernel
theorem dX1_init_13 : decode cX1_init 13 = .ok (.iconst (-1), 1) := by decide +kernel
theorem dX1_init_14 : decode cX1_init 14 = .ok (.putfield 15, 3) := by decide +kernel
theorem dX1_init_17 : decode cX1_init 17 = .ok (.return_, 1) := by decide +kernel
theorem dX1_read_0 : decode cX1_read 0 = .ok (.aload_n 0, 1) := by decide +kernel
theorem dX1_read_1 : decode cX1_read 1 = .ok (.aload_n 1, 1) := by decide +kernel
theorem dX1_read_2 : decode cX1_read 2 = .ok (.invokevirtual 19, 3) := by decide +kernel
theorem dX1_read_5 : decode cX1_read 5 = .ok (.putfield 25, 3) := by decide +kernel
theorem dX1_read_8 : decode cX1_read 8 = .ok (.aload_n 0, 1) := by decide +kernel
theorem dX1_read_9 : decode cX1_read 9 = .ok (.getfield 25, 3) := by decide +kernel
theorem dX1_read_12 : decode cX1_read 12 = .ok (.iconst 2, 1) := by decide +kernel
theorem dX1_read_13 : decode cX1_read 13 = .ok (.bipush 10, 2) := by decide +kernel
theorem dX1_read_15 : decode cX1_read 15 = .ok (.invokestatic 28, 3) := by decide +kernel
theorem dX1_read_18 : decode cX1_read 18 = .ok (.ifCond .ne 5, 3) := by decide +kernel
theorem dX1_read_21 : decode cX1_read 21 = .ok (.iconst 0, 1) := by decide +kernel
theorem dX1_read_22 : decode cX1_read 22 = .ok (.ireturn, 1) := by decide +kernel
theorem dX1_read_23 : decode cX1_read 23 = .ok (.iconst 0, 1) := by decide +kernel
theorem dX1_read_24 : decode cX1_read 24 = .ok (.istore_n 3, 1) := by decide +kernel
theorem dX1_read_25 : decode cX1_read 25 = .ok (.iload_n 3, 1) := by decide +kernel
theorem dX1_read_26 : decode cX1_read 26 = .ok (.aload_n 0, 1) := by decide +kernel
theorem dX1_read_27 : decode cX1_read 27 = .ok (.getfield 25, 3) := by decide +kernel
theorem dX1_read_30 : decode cX1_read 30 = .ok (.if_icmp .ge 65, 3) := by decide +kernel
theorem dX1_read_33 : decode cX1_read 33 = .ok (.aload_n 0, 1) := by decide +kernel
theorem dX1_read_34 : decode cX1_read 34 = .ok (.getfield 11, 3) := by decide +kernel
theorem dX1_read_37 : decode cX1_read 37 = .ok (.iload_n 3, 1) := by decide +kernel
theorem dX1_read_38 : decode cX1_read 38 = .ok (.aload_n 1, 1) := by decide +kernel
theorem dX1_read_39 : decode cX1_read 39 = .ok (.iload_n 3, 1) := by decide +kernel
theorem dX1_read_40 : decode cX1_read 40 = .ok (.invokevirtual 32, 3) := by decide +kernel
theorem dX1_read_43 : decode cX1_read 43 = .ok (.bipush 65, 2) := by decide +kernel
theorem dX1_read_45 : decode cX1_read 45 = .ok (.isub, 1) := by decide +kernel
theorem dX1_read_46 : decode cX1_read 46 = .ok (.iastore, 1) := by decide +kernel
theorem dX1_read_47 : decode cX1_read 47 = .ok (.aload_n 0, 1) := by decide +kernel
theorem dX1_read_48 : decode cX1_read 48 = .ok (.getfield 11, 3) := by decide +kernel
theorem dX1_read_51 : decode cX1_read 51 = .ok (.iload_n 3, 1) := by decide +kernel
theorem dX1_read_52 : decode cX1_read 52 = .ok (.iaload, 1) := by decide +kernel
theorem dX1_read_53 : decode cX1_read 53 = .ok (.invokestatic 36, 3) := by decide +kernel
theorem dX1_read_56 : decode cX1_read 56 = .ok (.ifCond .ne 5, 3) := by decide +kernel
theorem dX1_read_59 : decode cX1_read 59 = .ok (.iconst 0, 1) := by decide +kernel
theorem dX1_read_60 : decode cX1_read 60 = .ok (.ireturn, 1) := by decide +kernel
theorem dX1_read_61 : decode cX1_read 61 = .ok (.iload_n 3, 1) := by decide +kernel
theorem dX1_read_62 : decode cX1_read 62 = .ok (.ifCond .le 27, 3) := by decide +kernel
theorem dX1_read_65 : decode cX1_read 65 = .ok (.aload_n 2, 1) := by decide +kernel
theorem dX1_read_66 : decode cX1_read 66 = .ok (.aload_n 0, 1) := by decide +kernel
theorem dX1_read_67 : decode cX1_read 67 = .ok (.getfield 11, 3) := by decide +kernel
theorem dX1_read_70 : decode cX1_read 70 = .ok (.iload_n 3, 1) := by decide +kernel
theorem dX1_read_71 : decode cX1_read 71 = .ok (.iconst 1, 1) := by decide +kernel
theorem dX1_read_72 : decode cX1_read 72 = .ok (.isub, 1) := by decide +kernel
theorem dX1_read_73 : decode cX1_read 73 = .ok (.iaload, 1) := by decide +kernel
theorem dX1_read_74 : decode cX1_read 74 = .ok (.aload_n 0, 1) := by decide +kernel
theorem dX1_read_75 : decode cX1_read 75 = .ok (.getfield 11, 3) := by decide +kernel
theorem dX1_read_78 : decode cX1_read 78 = .ok (.iload_n 3, 1) := by decide +kernel
theorem dX1_read_79 : decode cX1_read 79 = .ok (.iaload, 1) := by decide +kernel
theorem dX1_read_80 : decode cX1_read 80 = .ok (.invokevirtual 40, 3) := by decide +kernel
theorem dX1_read_83 : decode cX1_read 83 = .ok (.iconst (-1), 1) := by decide +kernel
theorem dX1_read_84 : decode cX1_read 84 = .ok (.if_icmp .ne 5, 3) := by decide +kernel
theorem dX1_read_87 : decode cX1_read 87 = .ok (.iconst 0, 1) := by decide +kernel
theorem dX1_read_88 : decode cX1_read 88 = .ok (.ireturn, 1) := by decide +kernel
theorem dX1_read_89 : decode cX1_read 89 = .ok (.iinc 3 1, 3) := by decide +kernel
theorem dX1_read_92 : decode cX1_read 92 = .ok (.goto (-67), 3) := by decide +kernel
theorem dX1_read_95 : decode cX1_read 95 = .ok (.iconst 1, 1) := by decide +kernel
theorem dX1_read_96 : decode cX1_read 96 = .ok (.ireturn, 1) := by decide +kernel
theorem dX1_run_0 : decode cX1_run 0 = .ok (.aload_n 1, 1) := by decide +kernel
theorem dX1_run_1 : decode cX1_run 1 = .ok (.aload_n 0, 1) := by decide +kernel
theorem dX1_run_2 : decode cX1_run 2 = .ok (.getfield 11, 3) := by decide +kernel
theorem dX1_run_5 : decode cX1_run 5 = .ok (.iconst 0, 1) := by decide +kernel
theorem dX1_run_6 : decode cX1_run 6 = .ok (.iaload, 1) := by decide +kernel
theorem dX1_run_7 : decode cX1_run 7 = .ok (.invokevirtual 46, 3) := by decide +kernel
theorem dX1_run_10 : decode cX1_run 10 = .ok (.istore 4, 2) := by decide +kernel
theorem dX1_run_12 : decode cX1_run 12 = .ok (.iconst 1, 1) := by decide +kernel
theorem dX1_run_13 : decode cX1_run 13 = .ok (.istore 5, 2) := by decide +kernel
theorem dX1_run_15 : decode cX1_run 15 = .ok (.iconst 0, 1) := by decide +kernel
theorem dX1_run_16 : decode cX1_run 16 = .ok (.istore 6, 2) := by decide +kernel
theorem dX1_run_18 : decode cX1_run 18 = .ok (.aload_n 0, 1) := by decide +kernel
theorem dX1_run_19 : decode cX1_run 19 = .ok (.iconst 0, 1) := by decide +kernel
theorem dX1_run_20 : decode cX1_run 20 = .ok (.putfield 49, 3) := by decide +kernel
theorem dX1_run_23 : decode cX1_run 23 = .ok (.iload 5, 2) := by decide +kernel
theorem dX1_run_25 : decode cX1_run 25 = .ok (.aload_n 0, 1) := by decide +kernel
theorem dX1_run_26 : decode cX1_run 26 = .ok (.getfield 25, 3) := by decide +kernel
theorem dX1_run_29 : decode cX1_run 29 = .ok (.if_icmp .ge 106, 3) := by decide +kernel
theorem dX1_run_32 : decode cX1_run 32 = .ok (.aload_n 1, 1) := by decide +kernel
theorem dX1_run_33 : decode cX1_run 33 = .ok (.aload_n 0, 1) := by decide +kernel
theorem dX1_run_34 : decode cX1_run 34 = .ok (.getfield 11, 3) := by decide +kernel
theorem dX1_run_37 : decode cX1_run 37 = .ok (.iload 5, 2) := by decide +kernel
theorem dX1_run_39 : decode cX1_run 39 = .ok (.iconst 1, 1) := by decide +kernel
theorem dX1_run_40 : decode cX1_run 40 = .ok (.isub, 1) := by decide +kernel
theorem dX1_run_41 : decode cX1_run 41 = .ok (.iaload, 1) := by decide +kernel
theorem dX1_run_42 : decode cX1_run 42 = .ok (.aload_n 0, 1) := by decide +kernel
theorem dX1_run_43 : decode cX1_run 43 = .ok (.getfield 11, 3) := by decide +kernel
theorem dX1_run_46 : decode cX1_run 46 = .ok (.iload 5, 2) := by decide +kernel
theorem dX1_run_48 : decode cX1_run 48 = .ok (.iaload, 1) := by decide +kernel
theorem dX1_run_49 : decode cX1_run 49 = .ok (.invokevirtual 40, 3) := by decide +kernel
theorem dX1_run_52 : decode cX1_run 52 = .ok (.istore 7, 2) := by decide +kernel
theorem dX1_run_54 : decode cX1_run 54 = .ok (.aload_n 1, 1) := by decide +kernel
theorem dX1_run_55 : decode cX1_run 55 = .ok (.aload_n 0, 1) := by decide +kernel
theorem dX1_run_56 : decode cX1_run 56 = .ok (.getfield 11, 3) := by decide +kernel
theorem dX1_run_59 : decode cX1_run 59 = .ok (.iload 5, 2) := by decide +kernel
theorem dX1_run_61 : decode cX1_run 61 = .ok (.iaload, 1) := by decide +kernel
theorem dX1_run_62 : decode cX1_run 62 = .ok (.invokevirtual 46, 3) := by decide +kernel
theorem dX1_run_65 : decode cX1_run 65 = .ok (.istore 8, 2) := by decide +kernel
theorem dX1_run_67 : decode cX1_run 67 = .ok (.aload_n 2, 1) := by decide +kernel
theorem dX1_run_68 : decode cX1_run 68 = .ok (.iload 8, 2) := by decide +kernel
theorem dX1_run_70 : decode cX1_run 70 = .ok (.aaload, 1) := by decide +kernel
theorem dX1_run_71 : decode cX1_run 71 = .ok (.getfield 52, 3) := by decide +kernel
theorem dX1_run_74 : decode cX1_run 74 = .ok (.astore 9, 2) := by decide +kernel
theorem dX1_run_76 : decode cX1_run 76 = .ok (.iload 6, 2) := by decide +kernel
theorem dX1_run_78 : decode cX1_run 78 = .ok (.iload 7, 2) := by decide +kernel
theorem dX1_run_80 : decode cX1_run 80 = .ok (.iadd, 1) := by decide +kernel
theorem dX1_run_81 : decode cX1_run 81 = .ok (.istore 6, 2) := by decide +kernel
theorem dX1_run_83 : decode cX1_run 83 = .ok (.iload 8, 2) := by decide +kernel
theorem dX1_run_85 : decode cX1_run 85 = .ok (.iload 4, 2) := by decide +kernel
theorem dX1_run_87 : decode cX1_run 87 = .ok (.if_icmp .ne 9, 3) := by decide +kernel
theorem dX1_run_90 : decode cX1_run 90 = .ok (.iconst 0, 1) := by decide +kernel
theorem dX1_run_91 : decode cX1_run 91 = .ok (.istore 6, 2) := by decide +kernel
theorem dX1_run_93 : decode cX1_run 93 = .ok (.goto 25, 3) := by decide +kernel
theorem dX1_run_96 : decode cX1_run 96 = .ok (.aload 9, 2) := by decide +kernel
theorem dX1_run_98 : decode cX1_run 98 = .ok (.iload_n 3, 1) := by decide +kernel
theorem dX1_run_99 : decode cX1_run 99 = .ok (.invokevirtual 58, 3) := by decide +kernel
theorem dX1_run_102 : decode cX1_run 102 = .ok (.ifCond .eq 33, 3) := by decide +kernel
theorem dX1_run_105 : decode cX1_run 105 = .ok (.iload 6, 2) := by decide +kernel
theorem dX1_run_107 : decode cX1_run 107 = .ok (.aload 9, 2) := by decide +kernel
theorem dX1_run_109 : decode cX1_run 109 = .ok (.getfield 64, 3) := by decide +kernel
theorem dX1_run_112 : decode cX1_run 112 = .ok (.if_icmp .le 6, 3) := by decide +kernel
theorem dX1_run_115 : decode cX1_run 115 = .ok (.goto 20, 3) := by decide +kernel
theorem dX1_run_118 : decode cX1_run 118 = .ok (.aload_n 0, 1) := by decide +kernel
theorem dX1_run_119 : decode cX1_run 119 = .ok (.dup, 1) := by decide +kernel
theorem dX1_run_120 : decode cX1_run 120 = .ok (.getfield 49, 3) := by decide +kernel
theorem dX1_run_123 : decode cX1_run 123 = .ok (.iload 7, 2) := by decide +kernel
theorem dX1_run_125 : decode cX1_run 125 = .ok (.iadd, 1) := by decide +kernel
theorem dX1_run_126 : decode cX1_run 126 = .ok (.putfield 49, 3) := by decide +kernel
theorem dX1_run_129 : decode cX1_run 129 = .ok (.iinc 5 1, 3) := by decide +kernel
theorem dX1_run_132 : decode cX1_run 132 = .ok (.goto (-109), 3) := by decide +kernel
theorem dX1_run_135 : decode cX1_run 135 = .ok (.aload_n 0, 1) := by decide +kernel
theorem dX1_run_136 : decode cX1_run 136 = .ok (.aload_n 0, 1) := by decide +kernel
theorem dX1_run_137 : decode cX1_run 137 = .ok (.getfield 11, 3) := by decide +kernel
theorem dX1_run_140 : decode cX1_run 140 = .ok (.iload 5, 2) := by decide +kernel
theorem dX1_run_142 : decode cX1_run 142 = .ok (.iconst 1, 1) := by decide +kernel
theorem dX1_run_143 : decode cX1_run 143 = .ok (.isub, 1) := by decide +kernel
theorem dX1_run_144 : decode cX1_run 144 = .ok (.iaload, 1) := by decide +kernel
theorem dX1_run_145 : decode cX1_run 145 = .ok (.putfield 15, 3) := by decide +kernel
theorem dX1_run_148 : decode cX1_run 148 = .ok (.iload 5, 2) := by decide +kernel
theorem dX1_run_150 : decode cX1_run 150 = .ok (.ireturn, 1) := by decide +kernel
theorem dX1_tell_0 : decode cX1_tell 0 = .ok (.aload_n 0, 1) := by decide +kernel
theorem dX1_tell_1 : decode cX1_tell 1 = .ok (.getfield 15, 3) := by decide +kernel
theorem dX1_tell_4 : decode cX1_tell 4 = .ok (.iconst (-1), 1) := by decide +kernel
theorem dX1_tell_5 : decode cX1_tell 5 = .ok (.if_icmp .ne 6, 3) := by decide +kernel
theorem dX1_tell_8 : decode cX1_tell 8 = .ok (.bipush (-9), 2) := by decide +kernel
theorem dX1_tell_10 : decode cX1_tell 10 = .ok (.ireturn, 1) := by decide +kernel
theorem dX1_tell_11 : decode cX1_tell 11 = .ok (.iload_n 1, 1) := by decide +kernel
theorem dX1_tell_12 : decode cX1_tell 12 = .ok (.lookupswitch 38 #[(0, 28), (1, 33)], 28) := by decide +kernel
theorem dX1_tell_40 : decode cX1_tell 40 = .ok (.aload_n 0, 1) := by decide +kernel
theorem dX1_tell_41 : decode cX1_tell 41 = .ok (.getfield 49, 3) := by decide +kernel
theorem dX1_tell_44 : decode cX1_tell 44 = .ok (.ireturn, 1) := by decide +kernel
theorem dX1_tell_45 : decode cX1_tell 45 = .ok (.aload_n 0, 1) := by decide +kernel
theorem dX1_tell_46 : decode cX1_tell 46 = .ok (.getfield 15, 3) := by decide +kernel
theorem dX1_tell_49 : decode cX1_tell 49 = .ok (.ireturn, 1) := by decide +kernel
theorem dX1_tell_50 : decode cX1_tell 50 = .ok (.bipush (-9), 2) := by decide +kernel
theorem dX1_tell_52 : decode cX1_tell 52 = .ok (.ireturn, 1) := by decide +kernel
theorem dX2_init_0 : decode cX2_init 0 = .ok (.aload_n 0, 1) := by decide +kernel
theorem dX2_init_1 : decode cX2_init 1 = .ok (.invokespecial 3, 3) := by decide +kernel
theorem dX2_init_4 : decode cX2_init 4 = .ok (.aload_n 0, 1) := by decide +kernel
theorem dX2_init_5 : decode cX2_init 5 = .ok (.iconst 0, 1) := by decide +kernel
theorem dX2_init_6 : decode cX2_init 6 = .ok (.putfield 9, 3) := by decide +kernel
theorem dX2_init_9 : decode cX2_init 9 = .ok (.aload_n 0, 1) := by decide +kernel
theorem dX2_init_10 : decode cX2_init 10 = .ok (.iconst (-1), 1) := by decide +kernel
theorem dX2_init_11 : decode cX2_init 11 = .ok (.putfield 15, 3) := by decide +kernel
theorem dX2_init_14 : decode cX2_init 14 = .ok (.aload_n 0, 1) := by decide +kernel
theorem dX2_init_15 : decode cX2_init 15 = .ok (.iload_n 1, 1) := by decide +kernel
theorem dX2_init_16 : decode cX2_init 16 = .ok (.putfield 18, 3) := by decide +kernel
theorem dX2_init_19 : decode cX2_init 19 = .ok (.aload_n 0, 1) := by decide +kernel
theorem dX2_init_20 : decode cX2_init 20 = .ok (.iload_n 2, 1) := by decide +kernel
theorem dX2_init_21 : decode cX2_init 21 = .ok (.putfield 21, 3) := by decide +kernel
theorem dX2_init_24 : decode cX2_init 24 = .ok (.return_, 1) := by decide +kernel
theorem dX2_isDue_0 : decode cX2_isDue 0 = .ok (.aload_n 0, 1) := by decide +kernel
theorem dX2_isDue_1 : decode cX2_isDue 1 = .ok (.getfield 15, 3) := by decide +kernel
theorem dX2_isDue_4 : decode cX2_isDue 4 = .ok (.iconst (-1), 1) := by decide +kernel
theorem dX2_isDue_5 : decode cX2_isDue 5 = .ok (.if_icmp .eq 20, 3) := by decide +kernel
theorem dX2_isDue_8 : decode cX2_isDue 8 = .ok (.iload_n 2, 1) := by decide +kernel
theorem dX2_isDue_9 : decode cX2_isDue 9 = .ok (.aload_n 0, 1) := by decide +kernel
theorem dX2_isDue_10 : decode cX2_isDue 10 = .ok (.getfield 15, 3) := by decide +kernel
theorem dX2_isDue_13 : decode cX2_isDue 13 = .ok (.isub, 1) := by decide +kernel
theorem dX2_isDue_14 : decode cX2_isDue 14 = .ok (.aload_n 1, 1) := by decide +kernel
theorem dX2_isDue_15 : decode cX2_isDue 15 = .ok (.getfield 24, 3) := by decide +kernel
theorem dX2_isDue_18 : decode cX2_isDue 18 = .ok (.if_icmp .gt 7, 3) := by decide +kernel
theorem dX2_isDue_21 : decode cX2_isDue 21 = .ok (.iconst 1, 1) := by decide +kernel
theorem dX2_isDue_22 : decode cX2_isDue 22 = .ok (.goto 4, 3) := by decide +kernel
theorem dX2_isDue_25 : decode cX2_isDue 25 = .ok (.iconst 0, 1) := by decide +kernel
theorem dX2_isDue_26 : decode cX2_isDue 26 = .ok (.istore_n 3, 1) := by decide +kernel
theorem dX2_isDue_27 : decode cX2_isDue 27 = .ok (.iload_n 2, 1) := by decide +kernel
theorem dX2_isDue_28 : decode cX2_isDue 28 = .ok (.aload_n 0, 1) := by decide +kernel
theorem dX2_isDue_29 : decode cX2_isDue 29 = .ok (.getfield 21, 3) := by decide +kernel
theorem dX2_isDue_32 : decode cX2_isDue 32 = .ok (.isub, 1) := by decide +kernel
theorem dX2_isDue_33 : decode cX2_isDue 33 = .ok (.aload_n 1, 1) := by decide +kernel
theorem dX2_isDue_34 : decode cX2_isDue 34 = .ok (.getfield 29, 3) := by decide +kernel
theorem dX2_isDue_37 : decode cX2_isDue 37 = .ok (.aload_n 1, 1) := by decide +kernel
theorem dX2_isDue_38 : decode cX2_isDue 38 = .ok (.getfield 32, 3) := by decide +kernel
theorem dX2_isDue_41 : decode cX2_isDue 41 = .ok (.invokestatic 35, 3) := by decide +kernel
theorem dX2_isDue_44 : decode cX2_isDue 44 = .ok (.ifCond .eq 11, 3) := by decide +kernel
theorem dX2_isDue_47 : decode cX2_isDue 47 = .ok (.iload_n 3, 1) := by decide +kernel
theorem dX2_isDue_48 : decode cX2_isDue 48 = .ok (.ifCond .ne 7, 3) := by decide +kernel
theorem dX2_isDue_51 : decode cX2_isDue 51 = .ok (.iconst 1, 1) := by decide +kernel
theorem dX2_isDue_52 : decode cX2_isDue 52 = .ok (.goto 4, 3) := by decide +kernel
theorem dX2_isDue_55 : decode cX2_isDue 55 = .ok (.iconst 0, 1) := by decide +kernel
theorem dX2_isDue_56 : decode cX2_isDue 56 = .ok (.ireturn, 1) := by decide +kernel
theorem dX2_canHire_0 : decode cX2_canHire 0 = .ok (.aload_n 0, 1) := by decide +kernel
theorem dX2_canHire_1 : decode cX2_canHire 1 = .ok (.getfield 9, 3) := by decide +kernel
theorem dX2_canHire_4 : decode cX2_canHire 4 = .ok (.iconst 1, 1) := by decide +kernel
theorem dX2_canHire_5 : decode cX2_canHire 5 = .ok (.if_icmp .ne 26, 3) := by decide +kernel
theorem dX2_canHire_8 : decode cX2_canHire 8 = .ok (.aload_n 1, 1) := by decide +kernel
theorem dX2_canHire_9 : decode cX2_canHire 9 = .ok (.getfield 39, 3) := by decide +kernel
theorem dX2_canHire_12 : decode cX2_canHire 12 = .ok (.iconst (-1), 1) := by decide +kernel
theorem dX2_canHire_13 : decode cX2_canHire 13 = .ok (.if_icmp .eq 18, 3) := by decide +kernel
theorem dX2_canHire_16 : decode cX2_canHire 16 = .ok (.aload_n 0, 1) := by decide +kernel
theorem dX2_canHire_17 : decode cX2_canHire 17 = .ok (.getfield 42, 3) := by decide +kernel
theorem dX2_canHire_20 : decode cX2_canHire 20 = .ok (.aload_n 1, 1) := by decide +kernel
theorem dX2_canHire_21 : decode cX2_canHire 21 = .ok (.getfield 39, 3) := by decide +kernel
theorem dX2_canHire_24 : decode cX2_canHire 24 = .ok (.if_icmp .lt 7, 3) := by decide +kernel
theorem dX2_canHire_27 : decode cX2_canHire 27 = .ok (.iconst 1, 1) := by decide +kernel
theorem dX2_canHire_28 : decode cX2_canHire 28 = .ok (.goto 4, 3) := by decide +kernel
theorem dX2_canHire_31 : decode cX2_canHire 31 = .ok (.iconst 0, 1) := by decide +kernel
theorem dX2_canHire_32 : decode cX2_canHire 32 = .ok (.ireturn, 1) := by decide +kernel
theorem dX2_canPay_0 : decode cX2_canPay 0 = .ok (.aload_n 0, 1) := by decide +kernel
theorem dX2_canPay_1 : decode cX2_canPay 1 = .ok (.getfield 9, 3) := by decide +kernel
theorem dX2_canPay_4 : decode cX2_canPay 4 = .ok (.iconst 2, 1) := by decide +kernel
theorem dX2_canPay_5 : decode cX2_canPay 5 = .ok (.if_icmp .ne 18, 3) := by decide +kernel
theorem dX2_canPay_8 : decode cX2_canPay 8 = .ok (.aload_n 0, 1) := by decide +kernel
theorem dX2_canPay_9 : decode cX2_canPay 9 = .ok (.getfield 42, 3) := by decide +kernel
theorem dX2_canPay_12 : decode cX2_canPay 12 = .ok (.aload_n 1, 1) := by decide +kernel
theorem dX2_canPay_13 : decode cX2_canPay 13 = .ok (.getfield 45, 3) := by decide +kernel
theorem dX2_canPay_16 : decode cX2_canPay 16 = .ok (.if_icmp .lt 7, 3) := by decide +kernel
theorem dX2_canPay_19 : decode cX2_canPay 19 = .ok (.iconst 1, 1) := by decide +kernel
theorem dX2_canPay_20 : decode cX2_canPay 20 = .ok (.goto 4, 3) := by decide +kernel
theorem dX2_canPay_23 : decode cX2_canPay 23 = .ok (.iconst 0, 1) := by decide +kernel
theorem dX2_canPay_24 : decode cX2_canPay 24 = .ok (.ireturn, 1) := by decide +kernel
theorem dX2_noteYear_0 : decode cX2_noteYear 0 = .ok (.aload_n 0, 1) := by decide +kernel
theorem dX2_noteYear_1 : decode cX2_noteYear 1 = .ok (.iload_n 1, 1) := by decide +kernel
theorem dX2_noteYear_2 : decode cX2_noteYear 2 = .ok (.putfield 15, 3) := by decide +kernel
theorem dX2_noteYear_5 : decode cX2_noteYear 5 = .ok (.aload_n 0, 1) := by decide +kernel
theorem dX2_noteYear_6 : decode cX2_noteYear 6 = .ok (.dup, 1) := by decide +kernel
theorem dX2_noteYear_7 : decode cX2_noteYear 7 = .ok (.getfield 48, 3) := by decide +kernel
theorem dX2_noteYear_10 : decode cX2_noteYear 10 = .ok (.iconst 1, 1) := by decide +kernel
theorem dX2_noteYear_11 : decode cX2_noteYear 11 = .ok (.iadd, 1) := by decide +kernel
theorem dX2_noteYear_12 : decode cX2_noteYear 12 = .ok (.putfield 48, 3) := by decide +kernel
theorem dX2_noteYear_15 : decode cX2_noteYear 15 = .ok (.return_, 1) := by decide +kernel
theorem dX2_tell_0 : decode cX2_tell 0 = .ok (.iload_n 1, 1) := by decide +kernel
theorem dX2_tell_1 : decode cX2_tell 1 = .ok (.tableswitch 69 0 5 #[39, 44, 49, 54, 59, 64], 39) := by decide +kernel
theorem dX2_tell_40 : decode cX2_tell 40 = .ok (.aload_n 0, 1) := by decide +kernel
theorem dX2_tell_41 : decode cX2_tell 41 = .ok (.getfield 18, 3) := by decide +kernel
theorem dX2_tell_44 : decode cX2_tell 44 = .ok (.ireturn, 1) := by decide +kernel
theorem dX2_tell_45 : decode cX2_tell 45 = .ok (.aload_n 0, 1) := by decide +kernel
theorem dX2_tell_46 : decode cX2_tell 46 = .ok (.getfield 21, 3) := by decide +kernel
theorem dX2_tell_49 : decode cX2_tell 49 = .ok (.ireturn, 1) := by decide +kernel
theorem dX2_tell_50 : decode cX2_tell 50 = .ok (.aload_n 0, 1) := by decide +kernel
theorem dX2_tell_51 : decode cX2_tell 51 = .ok (.getfield 42, 3) := by decide +kernel
theorem dX2_tell_54 : decode cX2_tell 54 = .ok (.ireturn, 1) := by decide +kernel
theorem dX2_tell_55 : decode cX2_tell 55 = .ok (.aload_n 0, 1) := by decide +kernel
theorem dX2_tell_56 : decode cX2_tell 56 = .ok (.getfield 9, 3) := by decide +kernel
theorem dX2_tell_59 : decode cX2_tell 59 = .ok (.ireturn, 1) := by decide +kernel
theorem dX2_tell_60 : decode cX2_tell 60 = .ok (.aload_n 0, 1) := by decide +kernel
theorem dX2_tell_61 : decode cX2_tell 61 = .ok (.getfield 15, 3) := by decide +kernel
theorem dX2_tell_64 : decode cX2_tell 64 = .ok (.ireturn, 1) := by decide +kernel
theorem dX2_tell_65 : decode cX2_tell 65 = .ok (.aload_n 0, 1) := by decide +kernel
theorem dX2_tell_66 : decode cX2_tell 66 = .ok (.getfield 48, 3) := by decide +kernel
theorem dX2_tell_69 : decode cX2_tell 69 = .ok (.ireturn, 1) := by decide +kernel
theorem dX2_tell_70 : decode cX2_tell 70 = .ok (.iconst (-1), 1) := by decide +kernel
theorem dX2_tell_71 : decode cX2_tell 71 = .ok (.ireturn, 1) := by decide +kernel
theorem dX3_init_0 : decode cX3_init 0 = .ok (.aload_n 0, 1) := by decide +kernel
theorem dX3_init_1 : decode cX3_init 1 = .ok (.invokespecial 3, 3) := by decide +kernel
theorem dX3_init_4 : decode cX3_init 4 = .ok (.aload_n 0, 1) := by decide +kernel
theorem dX3_init_5 : decode cX3_init 5 = .ok (.iconst (-1), 1) := by decide +kernel
theorem dX3_init_6 : decode cX3_init 6 = .ok (.putfield 9, 3) := by decide +kernel
theorem dX3_init_9 : decode cX3_init 9 = .ok (.aload_n 0, 1) := by decide +kernel
theorem dX3_init_10 : decode cX3_init 10 = .ok (.aload_n 1, 1) := by decide +kernel
theorem dX3_init_11 : decode cX3_init 11 = .ok (.putfield 15, 3) := by decide +kernel
theorem dX3_init_14 : decode cX3_init 14 = .ok (.return_, 1) := by decide +kernel
theorem dX3_faultKind_0 : decode cX3_faultKind 0 = .ok (.aload_n 0, 1) := by decide +kernel
theorem dX3_faultKind_1 : decode cX3_faultKind 1 = .ok (.getfield 19, 3) := by decide +kernel
theorem dX3_faultKind_4 : decode cX3_faultKind 4 = .ok (.ireturn, 1) := by decide +kernel
theorem dX3_faultPlace_0 : decode cX3_faultPlace 0 = .ok (.aload_n 0, 1) := by decide +kernel
theorem dX3_faultPlace_1 : decode cX3_faultPlace 1 = .ok (.getfield 9, 3) := by decide +kernel
theorem dX3_faultPlace_4 : decode cX3_faultPlace 4 = .ok (.ireturn, 1) := by decide +kernel
theorem dX3_read_0 : decode cX3_read 0 = .ok (.aload_n 0, 1) := by decide +kernel
theorem dX3_read_1 : decode cX3_read 1 = .ok (.iconst 0, 1) := by decide +kernel
theorem dX3_read_2 : decode cX3_read 2 = .ok (.putfield 22, 3) := by decide +kernel
theorem dX3_read_5 : decode cX3_read 5 = .ok (.aload_n 0, 1) := by decide +kernel
theorem dX3_read_6 : decode cX3_read 6 = .ok (.iconst 0, 1) := by decide +kernel
theorem dX3_read_7 : decode cX3_read 7 = .ok (.putfield 25, 3) := by decide +kernel
theorem dX3_read_10 : decode cX3_read 10 = .ok (.aload_n 0, 1) := by decide +kernel
theorem dX3_read_11 : decode cX3_read 11 = .ok (.iconst 0, 1) := by decide +kernel
theorem dX3_read_12 : decode cX3_read 12 = .ok (.putfield 19, 3) := by decide +kernel
theorem dX3_read_15 : decode cX3_read 15 = .ok (.aload_n 0, 1) := by decide +kernel
theorem dX3_read_16 : decode cX3_read 16 = .ok (.iconst (-1), 1) := by decide +kernel
theorem dX3_read_17 : decode cX3_read 17 = .ok (.putfield 9, 3) := by decide +kernel
theorem dX3_read_20 : decode cX3_read 20 = .ok (.aload_n 1, 1) := by decide +kernel
theorem dX3_read_21 : decode cX3_read 21 = .ok (.invokevirtual 28, 3) := by decide +kernel
theorem dX3_read_24 : decode cX3_read 24 = .ok (.aload_n 0, 1) := by decide +kernel
theorem dX3_read_25 : decode cX3_read 25 = .ok (.invokevirtual 33, 3) := by decide +kernel
theorem dX3_read_28 : decode cX3_read 28 = .ok (.iconst 0, 1) := by decide +kernel
theorem dX3_read_29 : decode cX3_read 29 = .ok (.istore_n 2, 1) := by decide +kernel
theorem dX3_read_30 : decode cX3_read 30 = .ok (.aload_n 0, 1) := by decide +kernel
theorem dX3_read_31 : decode cX3_read 31 = .ok (.getfield 36, 3) := by decide +kernel
theorem dX3_read_34 : decode cX3_read 34 = .ok (.ifCond .eq 36, 3) := by decide +kernel
theorem dX3_read_37 : decode cX3_read 37 = .ok (.aload_n 0, 1) := by decide +kernel
theorem dX3_read_38 : decode cX3_read 38 = .ok (.getfield 19, 3) := by decide +kernel
theorem dX3_read_41 : decode cX3_read 41 = .ok (.ifCond .ne 29, 3) := by decide +kernel
theorem dX3_read_44 : decode cX3_read 44 = .ok (.iload_n 2, 1) := by decide +kernel
theorem dX3_read_45 : decode cX3_read 45 = .ok (.aload_n 0, 1) := by decide +kernel
theorem dX3_read_46 : decode cX3_read 46 = .ok (.getfield 15, 3) := by decide +kernel
theorem dX3_read_49 : decode cX3_read 49 = .ok (.invokevirtual 39, 3) := by decide +kernel
theorem dX3_read_52 : decode cX3_read 52 = .ok (.if_icmp .ge 18, 3) := by decide +kernel
theorem dX3_read_55 : decode cX3_read 55 = .ok (.aload_n 0, 1) := by decide +kernel
theorem dX3_read_56 : decode cX3_read 56 = .ok (.aload_n 1, 1) := by decide +kernel
theorem dX3_read_57 : decode cX3_read 57 = .ok (.invokevirtual 45, 3) := by decide +kernel
theorem dX3_read_60 : decode cX3_read 60 = .ok (.aload_n 0, 1) := by decide +kernel
theorem dX3_read_61 : decode cX3_read 61 = .ok (.invokevirtual 49, 3) := by decide +kernel
theorem dX3_read_64 : decode cX3_read 64 = .ok (.iinc 2 1, 3) := by decide +kernel
theorem dX3_read_67 : decode cX3_read 67 = .ok (.goto (-37), 3) := by decide +kernel
theorem dX3_read_70 : decode cX3_read 70 = .ok (.aload_n 0, 1) := by decide +kernel
theorem dX3_read_71 : decode cX3_read 71 = .ok (.getfield 19, 3) := by decide +kernel
theorem dX3_read_74 : decode cX3_read 74 = .ok (.ifCond .ne 7, 3) := by decide +kernel
theorem dX3_read_77 : decode cX3_read 77 = .ok (.iload_n 2, 1) := by decide +kernel
theorem dX3_read_78 : decode cX3_read 78 = .ok (.goto 4, 3) := by decide +kernel
theorem dX3_read_81 : decode cX3_read 81 = .ok (.iconst (-1), 1) := by decide +kernel
theorem dX3_read_82 : decode cX3_read 82 = .ok (.ireturn, 1) := by decide +kernel
theorem dX3_readLine_0 : decode cX3_readLine 0 = .ok (.aload_n 0, 1) := by decide +kernel
theorem dX3_readLine_1 : decode cX3_readLine 1 = .ok (.ldc 52, 2) := by decide +kernel
theorem dX3_readLine_3 : decode cX3_readLine 3 = .ok (.invokevirtual 54, 3) := by decide +kernel
theorem dX3_readLine_6 : decode cX3_readLine 6 = .ok (.ifCond .eq 36, 3) := by decide +kernel
theorem dX3_readLine_9 : decode cX3_readLine 9 = .ok (.aload_n 0, 1) := by decide +kernel
theorem dX3_readLine_10 : decode cX3_readLine 10 = .ok (.iconst 1, 1) := by decide +kernel
theorem dX3_readLine_11 : decode cX3_readLine 11 = .ok (.invokevirtual 58, 3) := by decide +kernel
theorem dX3_readLine_14 : decode cX3_readLine 14 = .ok (.aload_n 1, 1) := by decide +kernel
theorem dX3_readLine_15 : decode cX3_readLine 15 = .ok (.aload_n 0, 1) := by decide +kernel
theorem dX3_readLine_16 : decode cX3_readLine 16 = .ok (.iconst 0, 1) := by decide +kernel
theorem dX3_readLine_17 : decode cX3_readLine 17 = .ok (.bipush 99, 2) := by decide +kernel
theorem dX3_readLine_19 : decode cX3_readLine 19 = .ok (.invokevirtual 62, 3) := by decide +kernel
theorem dX3_readLine_22 : decode cX3_readLine 22 = .ok (.putfield 66, 3) := by decide +kernel
theorem dX3_readLine_25 : decode cX3_readLine 25 = .ok (.aload_n 1, 1) := by decide +kernel
theorem dX3_readLine_26 : decode cX3_readLine 26 = .ok (.aload_n 0, 1) := by decide +kernel
theorem dX3_readLine_27 : decode cX3_readLine 27 = .ok (.aload_n 1, 1) := by decide +kernel
theorem dX3_readLine_28 : decode cX3_readLine 28 = .ok (.getfield 66, 3) := by decide +kernel
theorem dX3_readLine_31 : decode cX3_readLine 31 = .ok (.bipush 99, 2) := by decide +kernel
theorem dX3_readLine_33 : decode cX3_readLine 33 = .ok (.invokevirtual 62, 3) := by decide +kernel
theorem dX3_readLine_36 : decode cX3_readLine 36 = .ok (.putfield 69, 3) := by decide +kernel
theorem dX3_readLine_39 : decode cX3_readLine 39 = .ok (.goto 179, 3) := by decide +kernel
theorem dX3_readLine_42 : decode cX3_readLine 42 = .ok (.aload_n 0, 1) := by decide +kernel
theorem dX3_readLine_43 : decode cX3_readLine 43 = .ok (.ldc 72, 2) := by decide +kernel
theorem dX3_readLine_45 : decode cX3_readLine 45 = .ok (.invokevirtual 54, 3) := by decide +kernel
theorem dX3_readLine_48 : decode cX3_readLine 48 = .ok (.ifCond .eq 22, 3) := by decide +kernel
theorem dX3_readLine_51 : decode cX3_readLine 51 = .ok (.aload_n 0, 1) := by decide +kernel
theorem dX3_readLine_52 : decode cX3_readLine 52 = .ok (.iconst 2, 1) := by decide +kernel
theorem dX3_readLine_53 : decode cX3_readLine 53 = .ok (.invokevirtual 58, 3) := by decide +kernel
theorem dX3_readLine_56 : decode cX3_readLine 56 = .ok (.aload_n 1, 1) := by decide +kernel
theorem dX3_readLine_57 : decode cX3_readLine 57 = .ok (.aload_n 0, 1) := by decide +kernel
theorem dX3_readLine_58 : decode cX3_readLine 58 = .ok (.iconst 0, 1) := by decide +kernel
theorem dX3_readLine_59 : decode cX3_readLine 59 = .ok (.bipush 30, 2) := by decide +kernel
theorem dX3_readLine_61 : decode cX3_readLine 61 = .ok (.invokevirtual 62, 3) := by decide +kernel
theorem dX3_readLine_64 : decode cX3_readLine 64 = .ok (.putfield 74, 3) := by decide +kernel
theorem dX3_readLine_67 : decode cX3_readLine 67 = .ok (.goto 151, 3) := by decide +kernel
theorem dX3_readLine_70 : decode cX3_readLine 70 = .ok (.aload_n 0, 1) := by decide +kernel
theorem dX3_readLine_71 : decode cX3_readLine 71 = .ok (.ldc 76, 2) := by decide +kernel
theorem dX3_readLine_73 : decode cX3_readLine 73 = .ok (.invokevirtual 54, 3) := by decide +kernel
theorem dX3_readLine_76 : decode cX3_readLine 76 = .ok (.ifCond .eq 23, 3) := by decide +kernel
theorem dX3_readLine_79 : decode cX3_readLine 79 = .ok (.aload_n 0, 1) := by decide +kernel
theorem dX3_readLine_80 : decode cX3_readLine 80 = .ok (.iconst 4, 1) := by decide +kernel
theorem dX3_readLine_81 : decode cX3_readLine 81 = .ok (.invokevirtual 58, 3) := by decide +kernel
theorem dX3_readLine_84 : decode cX3_readLine 84 = .ok (.aload_n 1, 1) := by decide +kernel
theorem dX3_readLine_85 : decode cX3_readLine 85 = .ok (.aload_n 0, 1) := by decide +kernel
theorem dX3_readLine_86 : decode cX3_readLine 86 = .ok (.iconst 0, 1) := by decide +kernel
theorem dX3_readLine_87 : decode cX3_readLine 87 = .ok (.sipush 9999, 3) := by decide +kernel
theorem dX3_readLine_90 : decode cX3_readLine 90 = .ok (.invokevirtual 62, 3) := by decide +kernel
theorem dX3_readLine_93 : decode cX3_readLine 93 = .ok (.putfield 78, 3) := by decide +kernel
theorem dX3_readLine_96 : decode cX3_readLine 96 = .ok (.goto 122, 3) := by decide +kernel
theorem dX3_readLine_99 : decode cX3_readLine 99 = .ok (.aload_n 0, 1) := by decide +kernel
theorem dX3_readLine_100 : decode cX3_readLine 100 = .ok (.ldc 80, 2) := by decide +kernel
theorem dX3_readLine_102 : decode cX3_readLine 102 = .ok (.invokevirtual 54, 3) := by decide +kernel
theorem dX3_readLine_105 : decode cX3_readLine 105 = .ok (.ifCond .eq 24, 3) := by decide +kernel
theorem dX3_readLine_108 : decode cX3_readLine 108 = .ok (.aload_n 0, 1) := by decide +kernel
theorem dX3_readLine_109 : decode cX3_readLine 109 = .ok (.bipush 8, 2) := by decide +kernel
theorem dX3_readLine_111 : decode cX3_readLine 111 = .ok (.invokevirtual 58, 3) := by decide +kernel
theorem dX3_readLine_114 : decode cX3_readLine 114 = .ok (.aload_n 1, 1) := by decide +kernel
theorem dX3_readLine_115 : decode cX3_readLine 115 = .ok (.aload_n 0, 1) := by decide +kernel
theorem dX3_readLine_116 : decode cX3_readLine 116 = .ok (.iconst 0, 1) := by decide +kernel
theorem dX3_readLine_117 : decode cX3_readLine 117 = .ok (.sipush 9999, 3) := by decide +kernel
theorem dX3_readLine_120 : decode cX3_readLine 120 = .ok (.invokevirtual 62, 3) := by decide +kernel
theorem dX3_readLine_123 : decode cX3_readLine 123 = .ok (.putfield 82, 3) := by decide +kernel
theorem dX3_readLine_126 : decode cX3_readLine 126 = .ok (.goto 92, 3) := by decide +kernel
theorem dX3_readLine_129 : decode cX3_readLine 129 = .ok (.aload_n 0, 1) := by decide +kernel
theorem dX3_readLine_130 : decode cX3_readLine 130 = .ok (.ldc 84, 2) := by decide +kernel
theorem dX3_readLine_132 : decode cX3_readLine 132 = .ok (.invokevirtual 54, 3) := by decide +kernel
theorem dX3_readLine_135 : decode cX3_readLine 135 = .ok (.ifCond .eq 11, 3) := by decide +kernel
theorem dX3_readLine_138 : decode cX3_readLine 138 = .ok (.aload_n 0, 1) := by decide +kernel
theorem dX3_readLine_139 : decode cX3_readLine 139 = .ok (.aload_n 1, 1) := by decide +kernel
theorem dX3_readLine_140 : decode cX3_readLine 140 = .ok (.invokevirtual 86, 3) := by decide +kernel
theorem dX3_readLine_143 : decode cX3_readLine 143 = .ok (.goto 75, 3) := by decide +kernel
theorem dX3_readLine_146 : decode cX3_readLine 146 = .ok (.aload_n 0, 1) := by decide +kernel
theorem dX3_readLine_147 : decode cX3_readLine 147 = .ok (.ldc 89, 2) := by decide +kernel
theorem dX3_readLine_149 : decode cX3_readLine 149 = .ok (.invokevirtual 54, 3) := by decide +kernel
theorem dX3_readLine_152 : decode cX3_readLine 152 = .ok (.ifCond .eq 32, 3) := by decide +kernel
theorem dX3_readLine_155 : decode cX3_readLine 155 = .ok (.aload_n 0, 1) := by decide +kernel
theorem dX3_readLine_156 : decode cX3_readLine 156 = .ok (.bipush 16, 2) := by decide +kernel
theorem dX3_readLine_158 : decode cX3_readLine 158 = .ok (.invokevirtual 58, 3) := by decide +kernel
theorem dX3_readLine_161 : decode cX3_readLine 161 = .ok (.aload_n 1, 1) := by decide +kernel
theorem dX3_readLine_162 : decode cX3_readLine 162 = .ok (.aload_n 0, 1) := by decide +kernel
theorem dX3_readLine_163 : decode cX3_readLine 163 = .ok (.iconst 0, 1) := by decide +kernel
theorem dX3_readLine_164 : decode cX3_readLine 164 = .ok (.sipush 999, 3) := by decide +kernel
theorem dX3_readLine_167 : decode cX3_readLine 167 = .ok (.invokevirtual 62, 3) := by decide +kernel
theorem dX3_readLine_170 : decode cX3_readLine 170 = .ok (.putfield 91, 3) := by decide +kernel
theorem dX3_readLine_173 : decode cX3_readLine 173 = .ok (.aload_n 1, 1) := by decide +kernel
theorem dX3_readLine_174 : decode cX3_readLine 174 = .ok (.aload_n 0, 1) := by decide +kernel
theorem dX3_readLine_175 : decode cX3_readLine 175 = .ok (.invokevirtual 93, 3) := by decide +kernel
theorem dX3_readLine_178 : decode cX3_readLine 178 = .ok (.putfield 97, 3) := by decide +kernel
theorem dX3_readLine_181 : decode cX3_readLine 181 = .ok (.goto 37, 3) := by decide +kernel
theorem dX3_readLine_184 : decode cX3_readLine 184 = .ok (.aload_n 0, 1) := by decide +kernel
theorem dX3_readLine_185 : decode cX3_readLine 185 = .ok (.ldc 101, 2) := by decide +kernel
theorem dX3_readLine_187 : decode cX3_readLine 187 = .ok (.invokevirtual 54, 3) := by decide +kernel
theorem dX3_readLine_190 : decode cX3_readLine 190 = .ok (.ifCond .eq 23, 3) := by decide +kernel
theorem dX3_readLine_193 : decode cX3_readLine 193 = .ok (.aload_n 0, 1) := by decide +kernel
theorem dX3_readLine_194 : decode cX3_readLine 194 = .ok (.bipush 32, 2) := by decide +kernel
theorem dX3_readLine_196 : decode cX3_readLine 196 = .ok (.invokevirtual 58, 3) := by decide +kernel
theorem dX3_readLine_199 : decode cX3_readLine 199 = .ok (.aload_n 1, 1) := by decide +kernel
theorem dX3_readLine_200 : decode cX3_readLine 200 = .ok (.aload_n 0, 1) := by decide +kernel
theorem dX3_readLine_201 : decode cX3_readLine 201 = .ok (.iconst 0, 1) := by decide +kernel
theorem dX3_readLine_202 : decode cX3_readLine 202 = .ok (.bipush 20, 2) := by decide +kernel
theorem dX3_readLine_204 : decode cX3_readLine 204 = .ok (.invokevirtual 62, 3) := by decide +kernel
theorem dX3_readLine_207 : decode cX3_readLine 207 = .ok (.putfield 103, 3) := by decide +kernel
theorem dX3_readLine_210 : decode cX3_readLine 210 = .ok (.goto 8, 3) := by decide +kernel
theorem dX3_readLine_213 : decode cX3_readLine 213 = .ok (.aload_n 0, 1) := by decide +kernel
theorem dX3_readLine_214 : decode cX3_readLine 214 = .ok (.iconst 1, 1) := by decide +kernel
theorem dX3_readLine_215 : decode cX3_readLine 215 = .ok (.invokevirtual 105, 3) := by decide +kernel
theorem dX3_readLine_218 : decode cX3_readLine 218 = .ok (.return_, 1) := by decide +kernel
theorem dX3_beginOnly_0 : decode cX3_beginOnly 0 = .ok (.aload_n 0, 1) := by decide +kernel
theorem dX3_beginOnly_1 : decode cX3_beginOnly 1 = .ok (.getfield 25, 3) := by decide +kernel
theorem dX3_beginOnly_4 : decode cX3_beginOnly 4 = .ok (.iload_n 1, 1) := by decide +kernel
theorem dX3_beginOnly_5 : decode cX3_beginOnly 5 = .ok (.iand, 1) := by decide +kernel
theorem dX3_beginOnly_6 : decode cX3_beginOnly 6 = .ok (.ifCond .eq 8, 3) := by decide +kernel
theorem dX3_beginOnly_9 : decode cX3_beginOnly 9 = .ok (.aload_n 0, 1) := by decide +kernel
theorem dX3_beginOnly_10 : decode cX3_beginOnly 10 = .ok (.iconst 3, 1) := by decide +kernel
theorem dX3_beginOnly_11 : decode cX3_beginOnly 11 = .ok (.invokevirtual 105, 3) := by decide +kernel
theorem dX3_beginOnly_14 : decode cX3_beginOnly 14 = .ok (.aload_n 0, 1) := by decide +kernel
theorem dX3_beginOnly_15 : decode cX3_beginOnly 15 = .ok (.dup, 1) := by decide +kernel
theorem dX3_beginOnly_16 : decode cX3_beginOnly 16 = .ok (.getfield 25, 3) := by decide +kernel
theorem dX3_beginOnly_19 : decode cX3_beginOnly 19 = .ok (.iload_n 1, 1) := by decide +kernel
theorem dX3_beginOnly_20 : decode cX3_beginOnly 20 = .ok (.ior, 1) := by decide +kernel
theorem dX3_beginOnly_21 : decode cX3_beginOnly 21 = .ok (.putfield 25, 3) := by decide +kernel
theorem dX3_beginOnly_24 : decode cX3_beginOnly 24 = .ok (.aload_n 0, 1) := by decide +kernel
theorem dX3_beginOnly_25 : decode cX3_beginOnly 25 = .ok (.invokevirtual 33, 3) := by decide +kernel
theorem dX3_beginOnly_28 : decode cX3_beginOnly 28 = .ok (.return_, 1) := by decide +kernel
theorem dX3_readPower_0 : decode cX3_readPower 0 = .ok (.aload_n 1, 1) := by decide +kernel
theorem dX3_readPower_1 : decode cX3_readPower 1 = .ok (.invokevirtual 108, 3) := by decide +kernel
theorem dX3_readPower_4 : decode cX3_readPower 4 = .ok (.ifCond .ne 8, 3) := by decide +kernel
theorem dX3_readPower_7 : decode cX3_readPower 7 = .ok (.aload_n 0, 1) := by decide +kernel
theorem dX3_readPower_8 : decode cX3_readPower 8 = .ok (.iconst 4, 1) := by decide +kernel
theorem dX3_readPower_9 : decode cX3_readPower 9 = .ok (.invokevirtual 105, 3) := by decide +kernel
theorem dX3_readPower_12 : decode cX3_readPower 12 = .ok (.aload_n 0, 1) := by decide +kernel
theorem dX3_readPower_13 : decode cX3_readPower 13 = .ok (.invokevirtual 33, 3) := by decide +kernel
theorem dX3_readPower_16 : decode cX3_readPower 16 = .ok (.aload_n 0, 1) := by decide +kernel
theorem dX3_readPower_17 : decode cX3_readPower 17 = .ok (.invokevirtual 111, 3) := by decide +kernel
theorem dX3_readPower_20 : decode cX3_readPower 20 = .ok (.istore_n 2, 1) := by decide +kernel
theorem dX3_readPower_21 : decode cX3_readPower 21 = .ok (.aload_n 0, 1) := by decide +kernel
theorem dX3_readPower_22 : decode cX3_readPower 22 = .ok (.ldc 114, 2) := by decide +kernel
theorem dX3_readPower_24 : decode cX3_readPower 24 = .ok (.invokevirtual 116, 3) := by decide +kernel
theorem dX3_readPower_27 : decode cX3_readPower 27 = .ok (.aload_n 0, 1) := by decide +kernel
theorem dX3_readPower_28 : decode cX3_readPower 28 = .ok (.iconst 0, 1) := by decide +kernel
theorem dX3_readPower_29 : decode cX3_readPower 29 = .ok (.bipush 23, 2) := by decide +kernel
theorem dX3_readPower_31 : decode cX3_readPower 31 = .ok (.invokevirtual 62, 3) := by decide +kernel
theorem dX3_readPower_34 : decode cX3_readPower 34 = .ok (.istore_n 3, 1) := by decide +kernel
theorem dX3_readPower_35 : decode cX3_readPower 35 = .ok (.aload_n 0, 1) := by decide +kernel
theorem dX3_readPower_36 : decode cX3_readPower 36 = .ok (.ldc 120, 2) := by decide +kernel
theorem dX3_readPower_38 : decode cX3_readPower 38 = .ok (.invokevirtual 116, 3) := by decide +kernel
theorem dX3_readPower_41 : decode cX3_readPower 41 = .ok (.aload_n 0, 1) := by decide +kernel
theorem dX3_readPower_42 : decode cX3_readPower 42 = .ok (.iconst 0, 1) := by decide +kernel
theorem dX3_readPower_43 : decode cX3_readPower 43 = .ok (.bipush 23, 2) := by decide +kernel
theorem dX3_readPower_45 : decode cX3_readPower 45 = .ok (.invokevirtual 62, 3) := by decide +kernel
theorem dX3_readPower_48 : decode cX3_readPower 48 = .ok (.istore 4, 2) := by decide +kernel
theorem dX3_readPower_50 : decode cX3_readPower 50 = .ok (.aload_n 1, 1) := by decide +kernel
theorem dX3_readPower_51 : decode cX3_readPower 51 = .ok (.iload_n 2, 1) := by decide +kernel
theorem dX3_readPower_52 : decode cX3_readPower 52 = .ok (.iload_n 3, 1) := by decide +kernel
theorem dX3_readPower_53 : decode cX3_readPower 53 = .ok (.iload 4, 2) := by decide +kernel
theorem dX3_readPower_55 : decode cX3_readPower 55 = .ok (.aload_n 0, 1) := by decide +kernel
theorem dX3_readPower_56 : decode cX3_readPower 56 = .ok (.invokevirtual 93, 3) := by decide +kernel
theorem dX3_readPower_59 : decode cX3_readPower 59 = .ok (.invokevirtual 122, 3) := by decide +kernel
theorem dX3_readPower_62 : decode cX3_readPower 62 = .ok (.return_, 1) := by decide +kernel
theorem dX3_takePower_0 : decode cX3_takePower 0 = .ok (.aload_n 0, 1) := by decide +kernel
theorem dX3_takePower_1 : decode cX3_takePower 1 = .ok (.ldc 126, 2) := by decide +kernel
theorem dX3_takePower_3 : decode cX3_takePower 3 = .ok (.invokevirtual 54, 3) := by decide +kernel
theorem dX3_takePower_6 : decode cX3_takePower 6 = .ok (.ifCond .eq 7, 3) := by decide +kernel
theorem dX3_takePower_9 : decode cX3_takePower 9 = .ok (.iconst 0, 1) := by decide +kernel
theorem dX3_takePower_10 : decode cX3_takePower 10 = .ok (.goto 30, 3) := by decide +kernel
theorem dX3_takePower_13 : decode cX3_takePower 13 = .ok (.aload_n 0, 1) := by decide +kernel
theorem dX3_takePower_14 : decode cX3_takePower 14 = .ok (.ldc 127, 2) := by decide +kernel
theorem dX3_takePower_16 : decode cX3_takePower 16 = .ok (.invokevirtual 54, 3) := by decide +kernel
theorem dX3_takePower_19 : decode cX3_takePower 19 = .ok (.ifCond .eq 7, 3) := by decide +kernel
theorem dX3_takePower_22 : decode cX3_takePower 22 = .ok (.iconst 1, 1) := by decide +kernel
theorem dX3_takePower_23 : decode cX3_takePower 23 = .ok (.goto 17, 3) := by decide +kernel
theorem dX3_takePower_26 : decode cX3_takePower 26 = .ok (.aload_n 0, 1) := by decide +kernel
theorem dX3_takePower_27 : decode cX3_takePower 27 = .ok (.ldc 129, 2) := by decide +kernel
theorem dX3_takePower_29 : decode cX3_takePower 29 = .ok (.invokevirtual 54, 3) := by decide +kernel
theorem dX3_takePower_32 : decode cX3_takePower 32 = .ok (.ifCond .eq 7, 3) := by decide +kernel
theorem dX3_takePower_35 : decode cX3_takePower 35 = .ok (.iconst 2, 1) := by decide +kernel
theorem dX3_takePower_36 : decode cX3_takePower 36 = .ok (.goto 4, 3) := by decide +kernel
theorem dX3_takePower_39 : decode cX3_takePower 39 = .ok (.iconst (-1), 1) := by decide +kernel
theorem dX3_takePower_40 : decode cX3_takePower 40 = .ok (.istore_n 1, 1) := by decide +kernel
theorem dX3_takePower_41 : decode cX3_takePower 41 = .ok (.iload_n 1, 1) := by decide +kernel
theorem dX3_takePower_42 : decode cX3_takePower 42 = .ok (.iconst (-1), 1) := by decide +kernel
theorem dX3_takePower_43 : decode cX3_takePower 43 = .ok (.if_icmp .ne 8, 3) := by decide +kernel
theorem dX3_takePower_46 : decode cX3_takePower 46 = .ok (.aload_n 0, 1) := by decide +kernel
theorem dX3_takePower_47 : decode cX3_takePower 47 = .ok (.iconst 1, 1) := by decide +kernel
theorem dX3_takePower_48 : decode cX3_takePower 48 = .ok (.invokevirtual 105, 3) := by decide +kernel
theorem dX3_takePower_51 : decode cX3_takePower 51 = .ok (.aload_n 0, 1) := by decide +kernel
theorem dX3_takePower_52 : decode cX3_takePower 52 = .ok (.invokevirtual 33, 3) := by decide +kernel
theorem dX3_takePower_55 : decode cX3_takePower 55 = .ok (.iload_n 1, 1) := by decide +kernel
theorem dX3_takePower_56 : decode cX3_takePower 56 = .ok (.ireturn, 1) := by decide +kernel
theorem dX3_takeWord_0 : decode cX3_takeWord 0 = .ok (.aload_n 0, 1) := by decide +kernel
theorem dX3_takeWord_1 : decode cX3_takeWord 1 = .ok (.aload_n 1, 1) := by decide +kernel
theorem dX3_takeWord_2 : decode cX3_takeWord 2 = .ok (.invokevirtual 54, 3) := by decide +kernel
theorem dX3_takeWord_5 : decode cX3_takeWord 5 = .ok (.ifCond .ne 8, 3) := by decide +kernel
theorem dX3_takeWord_8 : decode cX3_takeWord 8 = .ok (.aload_n 0, 1) := by decide +kernel
theorem dX3_takeWord_9 : decode cX3_takeWord 9 = .ok (.iconst 1, 1) := by decide +kernel
theorem dX3_takeWord_10 : decode cX3_takeWord 10 = .ok (.invokevirtual 105, 3) := by decide +kernel
theorem dX3_takeWord_13 : decode cX3_takeWord 13 = .ok (.aload_n 0, 1) := by decide +kernel
theorem dX3_takeWord_14 : decode cX3_takeWord 14 = .ok (.invokevirtual 33, 3) := by decide +kernel
theorem dX3_takeWord_17 : decode cX3_takeWord 17 = .ok (.return_, 1) := by decide +kernel
theorem dX3_takeCry_0 : decode cX3_takeCry 0 = .ok (.aload_n 0, 1) := by decide +kernel
theorem dX3_takeCry_1 : decode cX3_takeCry 1 = .ok (.ldc 131, 2) := by decide +kernel
theorem dX3_takeCry_3 : decode cX3_takeCry 3 = .ok (.invokevirtual 54, 3) := by decide +kernel
theorem dX3_takeCry_6 : decode cX3_takeCry 6 = .ok (.ifCond .ne 5, 3) := by decide +kernel
theorem dX3_takeCry_9 : decode cX3_takeCry 9 = .ok (.iconst 0, 1) := by decide +kernel
theorem dX3_takeCry_10 : decode cX3_takeCry 10 = .ok (.ireturn, 1) := by decide +kernel
theorem dX3_takeCry_11 : decode cX3_takeCry 11 = .ok (.aload_n 0, 1) := by decide +kernel
theorem dX3_takeCry_12 : decode cX3_takeCry 12 = .ok (.invokevirtual 33, 3) := by decide +kernel
theorem dX3_takeCry_15 : decode cX3_takeCry 15 = .ok (.iconst 1, 1) := by decide +kernel
theorem dX3_takeCry_16 : decode cX3_takeCry 16 = .ok (.ireturn, 1) := by decide +kernel
theorem dX3_takeNumber_0 : decode cX3_takeNumber 0 = .ok (.aload_n 0, 1) := by decide +kernel
theorem dX3_takeNumber_1 : decode cX3_takeNumber 1 = .ok (.getfield 36, 3) := by decide +kernel
theorem dX3_takeNumber_4 : decode cX3_takeNumber 4 = .ok (.iconst 2, 1) := by decide +kernel
theorem dX3_takeNumber_5 : decode cX3_takeNumber 5 = .ok (.if_icmp .eq 11, 3) := by decide +kernel
theorem dX3_takeNumber_8 : decode cX3_takeNumber 8 = .ok (.aload_n 0, 1) := by decide +kernel
theorem dX3_takeNumber_9 : decode cX3_takeNumber 9 = .ok (.iconst 1, 1) := by decide +kernel
theorem dX3_takeNumber_10 : decode cX3_takeNumber 10 = .ok (.invokevirtual 105, 3) := by decide +kernel
theorem dX3_takeNumber_13 : decode cX3_takeNumber 13 = .ok (.goto 20, 3) := by decide +kernel
theorem dX3_takeNumber_16 : decode cX3_takeNumber 16 = .ok (.aload_n 0, 1) := by decide +kernel
theorem dX3_takeNumber_17 : decode cX3_takeNumber 17 = .ok (.getfield 133, 3) := by decide +kernel
theorem dX3_takeNumber_20 : decode cX3_takeNumber 20 = .ok (.iload_n 1, 1) := by decide +kernel
theorem dX3_takeNumber_21 : decode cX3_takeNumber 21 = .ok (.iload_n 2, 1) := by decide +kernel
theorem dX3_takeNumber_22 : decode cX3_takeNumber 22 = .ok (.invokestatic 136, 3) := by decide +kernel
theorem dX3_takeNumber_25 : decode cX3_takeNumber 25 = .ok (.ifCond .ne 8, 3) := by decide +kernel
theorem dX3_takeNumber_28 : decode cX3_takeNumber 28 = .ok (.aload_n 0, 1) := by decide +kernel
theorem dX3_takeNumber_29 : decode cX3_takeNumber 29 = .ok (.iconst 2, 1) := by decide +kernel
theorem dX3_takeNumber_30 : decode cX3_takeNumber 30 = .ok (.invokevirtual 105, 3) := by decide +kernel
theorem dX3_takeNumber_33 : decode cX3_takeNumber 33 = .ok (.aload_n 0, 1) := by decide +kernel
theorem dX3_takeNumber_34 : decode cX3_takeNumber 34 = .ok (.getfield 133, 3) := by decide +kernel
theorem dX3_takeNumber_37 : decode cX3_takeNumber 37 = .ok (.istore_n 3, 1) := by decide +kernel
theorem dX3_takeNumber_38 : decode cX3_takeNumber 38 = .ok (.aload_n 0, 1) := by decide +kernel
theorem dX3_takeNumber_39 : decode cX3_takeNumber 39 = .ok (.invokevirtual 33, 3) := by decide +kernel
theorem dX3_takeNumber_42 : decode cX3_takeNumber 42 = .ok (.iload_n 3, 1) := by decide +kernel
theorem dX3_takeNumber_43 : decode cX3_takeNumber 43 = .ok (.ireturn, 1) := by decide +kernel
theorem dX3_takeSemicolon_0 : decode cX3_takeSemicolon 0 = .ok (.aload_n 0, 1) := by decide +kernel
theorem dX3_takeSemicolon_1 : decode cX3_takeSemicolon 1 = .ok (.getfield 36, 3) := by decide +kernel
theorem dX3_takeSemicolon_4 : decode cX3_takeSemicolon 4 = .ok (.iconst 3, 1) := by decide +kernel
theorem dX3_takeSemicolon_5 : decode cX3_takeSemicolon 5 = .ok (.if_icmp .eq 8, 3) := by decide +kernel
theorem dX3_takeSemicolon_8 : decode cX3_takeSemicolon 8 = .ok (.aload_n 0, 1) := by decide +kernel
theorem dX3_takeSemicolon_9 : decode cX3_takeSemicolon 9 = .ok (.iconst 1, 1) := by decide +kernel
theorem dX3_takeSemicolon_10 : decode cX3_takeSemicolon 10 = .ok (.invokevirtual 105, 3) := by decide +kernel
theorem dX3_takeSemicolon_13 : decode cX3_takeSemicolon 13 = .ok (.aload_n 0, 1) := by decide +kernel
theorem dX3_takeSemicolon_14 : decode cX3_takeSemicolon 14 = .ok (.invokevirtual 33, 3) := by decide +kernel
theorem dX3_takeSemicolon_17 : decode cX3_takeSemicolon 17 = .ok (.return_, 1) := by decide +kernel
theorem dX3_blame_0 : decode cX3_blame 0 = .ok (.aload_n 0, 1) := by decide +kernel
theorem dX3_blame_1 : decode cX3_blame 1 = .ok (.getfield 19, 3) := by decide +kernel
theorem dX3_blame_4 : decode cX3_blame 4 = .ok (.ifCond .ne 16, 3) := by decide +kernel
theorem dX3_blame_7 : decode cX3_blame 7 = .ok (.aload_n 0, 1) := by decide +kernel
theorem dX3_blame_8 : decode cX3_blame 8 = .ok (.iload_n 1, 1) := by decide +kernel
theorem dX3_blame_9 : decode cX3_blame 9 = .ok (.putfield 19, 3) := by decide +kernel
theorem dX3_blame_12 : decode cX3_blame 12 = .ok (.aload_n 0, 1) := by decide +kernel
theorem dX3_blame_13 : decode cX3_blame 13 = .ok (.aload_n 0, 1) := by decide +kernel
theorem dX3_blame_14 : decode cX3_blame 14 = .ok (.getfield 140, 3) := by decide +kernel
theorem dX3_blame_17 : decode cX3_blame 17 = .ok (.putfield 9, 3) := by decide +kernel
theorem dX3_blame_20 : decode cX3_blame 20 = .ok (.return_, 1) := by decide +kernel
theorem dX3_isWord_0 : decode cX3_isWord 0 = .ok (.aload_n 0, 1) := by decide +kernel
theorem dX3_isWord_1 : decode cX3_isWord 1 = .ok (.getfield 36, 3) := by decide +kernel
theorem dX3_isWord_4 : decode cX3_isWord 4 = .ok (.iconst 1, 1) := by decide +kernel
theorem dX3_isWord_5 : decode cX3_isWord 5 = .ok (.if_icmp .ne 19, 3) := by decide +kernel
theorem dX3_isWord_8 : decode cX3_isWord 8 = .ok (.aload_n 0, 1) := by decide +kernel
theorem dX3_isWord_9 : decode cX3_isWord 9 = .ok (.getfield 22, 3) := by decide +kernel
theorem dX3_isWord_12 : decode cX3_isWord 12 = .ok (.aload_n 0, 1) := by decide +kernel
theorem dX3_isWord_13 : decode cX3_isWord 13 = .ok (.getfield 140, 3) := by decide +kernel
theorem dX3_isWord_16 : decode cX3_isWord 16 = .ok (.isub, 1) := by decide +kernel
theorem dX3_isWord_17 : decode cX3_isWord 17 = .ok (.aload_n 1, 1) := by decide +kernel
theorem dX3_isWord_18 : decode cX3_isWord 18 = .ok (.invokevirtual 143, 3) := by decide +kernel
theorem dX3_isWord_21 : decode cX3_isWord 21 = .ok (.if_icmp .eq 5, 3) := by decide +kernel
theorem dX3_isWord_24 : decode cX3_isWord 24 = .ok (.iconst 0, 1) := by decide +kernel
theorem dX3_isWord_25 : decode cX3_isWord 25 = .ok (.ireturn, 1) := by decide +kernel
theorem dX3_isWord_26 : decode cX3_isWord 26 = .ok (.iconst 0, 1) := by decide +kernel
theorem dX3_isWord_27 : decode cX3_isWord 27 = .ok (.istore_n 2, 1) := by decide +kernel
theorem dX3_isWord_28 : decode cX3_isWord 28 = .ok (.iload_n 2, 1) := by decide +kernel
theorem dX3_isWord_29 : decode cX3_isWord 29 = .ok (.aload_n 1, 1) := by decide +kernel
theorem dX3_isWord_30 : decode cX3_isWord 30 = .ok (.invokevirtual 143, 3) := by decide +kernel
theorem dX3_isWord_33 : decode cX3_isWord 33 = .ok (.if_icmp .ge 32, 3) := by decide +kernel
theorem dX3_isWord_36 : decode cX3_isWord 36 = .ok (.aload_n 0, 1) := by decide +kernel
theorem dX3_isWord_37 : decode cX3_isWord 37 = .ok (.getfield 15, 3) := by decide +kernel
theorem dX3_isWord_40 : decode cX3_isWord 40 = .ok (.aload_n 0, 1) := by decide +kernel
theorem dX3_isWord_41 : decode cX3_isWord 41 = .ok (.getfield 140, 3) := by decide +kernel
theorem dX3_isWord_44 : decode cX3_isWord 44 = .ok (.iload_n 2, 1) := by decide +kernel
theorem dX3_isWord_45 : decode cX3_isWord 45 = .ok (.iadd, 1) := by decide +kernel
theorem dX3_isWord_46 : decode cX3_isWord 46 = .ok (.invokevirtual 146, 3) := by decide +kernel
theorem dX3_isWord_49 : decode cX3_isWord 49 = .ok (.aload_n 1, 1) := by decide +kernel
theorem dX3_isWord_50 : decode cX3_isWord 50 = .ok (.iload_n 2, 1) := by decide +kernel
theorem dX3_isWord_51 : decode cX3_isWord 51 = .ok (.invokevirtual 150, 3) := by decide +kernel
theorem dX3_isWord_54 : decode cX3_isWord 54 = .ok (.if_icmp .eq 5, 3) := by decide +kernel
theorem dX3_isWord_57 : decode cX3_isWord 57 = .ok (.iconst 0, 1) := by decide +kernel
theorem dX3_isWord_58 : decode cX3_isWord 58 = .ok (.ireturn, 1) := by decide +kernel
theorem dX3_isWord_59 : decode cX3_isWord 59 = .ok (.iinc 2 1, 3) := by decide +kernel
theorem dX3_isWord_62 : decode cX3_isWord 62 = .ok (.goto (-34), 3) := by decide +kernel
theorem dX3_isWord_65 : decode cX3_isWord 65 = .ok (.iconst 1, 1) := by decide +kernel
theorem dX3_isWord_66 : decode cX3_isWord 66 = .ok (.ireturn, 1) := by decide +kernel
theorem dX3_advance_0 : decode cX3_advance 0 = .ok (.aload_n 0, 1) := by decide +kernel
theorem dX3_advance_1 : decode cX3_advance 1 = .ok (.aload_n 0, 1) := by decide +kernel
theorem dX3_advance_2 : decode cX3_advance 2 = .ok (.getfield 22, 3) := by decide +kernel
theorem dX3_advance_5 : decode cX3_advance 5 = .ok (.putfield 140, 3) := by decide +kernel
theorem dX3_advance_8 : decode cX3_advance 8 = .ok (.aload_n 0, 1) := by decide +kernel
theorem dX3_advance_9 : decode cX3_advance 9 = .ok (.getfield 140, 3) := by decide +kernel
theorem dX3_advance_12 : decode cX3_advance 12 = .ok (.aload_n 0, 1) := by decide +kernel
theorem dX3_advance_13 : decode cX3_advance 13 = .ok (.getfield 15, 3) := by decide +kernel
theorem dX3_advance_16 : decode cX3_advance 16 = .ok (.invokevirtual 39, 3) := by decide +kernel
theorem dX3_advance_19 : decode cX3_advance 19 = .ok (.if_icmp .ge 33, 3) := by decide +kernel
theorem dX3_advance_22 : decode cX3_advance 22 = .ok (.aload_n 0, 1) := by decide +kernel
theorem dX3_advance_23 : decode cX3_advance 23 = .ok (.getfield 15, 3) := by decide +kernel
theorem dX3_advance_26 : decode cX3_advance 26 = .ok (.aload_n 0, 1) := by decide +kernel
theorem dX3_advance_27 : decode cX3_advance 27 = .ok (.getfield 140, 3) := by decide +kernel
theorem dX3_advance_30 : decode cX3_advance 30 = .ok (.invokevirtual 146, 3) := by decide +kernel
theorem dX3_advance_33 : decode cX3_advance 33 = .ok (.invokestatic 154, 3) := by decide +kernel
theorem dX3_advance_36 : decode cX3_advance 36 = .ok (.ifCond .eq 16, 3) := by decide +kernel
theorem dX3_advance_39 : decode cX3_advance 39 = .ok (.aload_n 0, 1) := by decide +kernel
theorem dX3_advance_40 : decode cX3_advance 40 = .ok (.dup, 1) := by decide +kernel
theorem dX3_advance_41 : decode cX3_advance 41 = .ok (.getfield 140, 3) := by decide +kernel
theorem dX3_advance_44 : decode cX3_advance 44 = .ok (.iconst 1, 1) := by decide +kernel
theorem dX3_advance_45 : decode cX3_advance 45 = .ok (.iadd, 1) := by decide +kernel
theorem dX3_advance_46 : decode cX3_advance 46 = .ok (.putfield 140, 3) := by decide +kernel
theorem dX3_advance_49 : decode cX3_advance 49 = .ok (.goto (-41), 3) := by decide +kernel
theorem dX3_advance_52 : decode cX3_advance 52 = .ok (.aload_n 0, 1) := by decide +kernel
theorem dX3_advance_53 : decode cX3_advance 53 = .ok (.aload_n 0, 1) := by decide +kernel
theorem dX3_advance_54 : decode cX3_advance 54 = .ok (.getfield 140, 3) := by decide +kernel
theorem dX3_advance_57 : decode cX3_advance 57 = .ok (.putfield 22, 3) := by decide +kernel
theorem dX3_advance_60 : decode cX3_advance 60 = .ok (.aload_n 0, 1) := by decide +kernel
theorem dX3_advance_61 : decode cX3_advance 61 = .ok (.iconst 0, 1) := by decide +kernel
theorem dX3_advance_62 : decode cX3_advance 62 = .ok (.putfield 133, 3) := by decide +kernel
theorem dX3_advance_65 : decode cX3_advance 65 = .ok (.aload_n 0, 1) := by decide +kernel
theorem dX3_advance_66 : decode cX3_advance 66 = .ok (.getfield 15, 3) := by decide +kernel
theorem dX3_advance_69 : decode cX3_advance 69 = .ok (.aload_n 0, 1) := by decide +kernel
theorem dX3_advance_70 : decode cX3_advance 70 = .ok (.getfield 140, 3) := by decide +kernel
theorem dX3_advance_73 : decode cX3_advance 73 = .ok (.invokevirtual 146, 3) := by decide +kernel
theorem dX3_advance_76 : decode cX3_advance 76 = .ok (.istore_n 1, 1) := by decide +kernel
theorem dX3_advance_77 : decode cX3_advance 77 = .ok (.iload_n 1, 1) := by decide +kernel
theorem dX3_advance_78 : decode cX3_advance 78 = .ok (.iconst (-1), 1) := by decide +kernel
theorem dX3_advance_79 : decode cX3_advance 79 = .ok (.if_icmp .ne 11, 3) := by decide +kernel
theorem dX3_advance_82 : decode cX3_advance 82 = .ok (.aload_n 0, 1) := by decide +kernel
theorem dX3_advance_83 : decode cX3_advance 83 = .ok (.iconst 0, 1) := by decide +kernel
theorem dX3_advance_84 : decode cX3_advance 84 = .ok (.putfield 36, 3) := by decide +kernel
theorem dX3_advance_87 : decode cX3_advance 87 = .ok (.goto 186, 3) := by decide +kernel
theorem dX3_advance_90 : decode cX3_advance 90 = .ok (.iload_n 1, 1) := by decide +kernel
theorem dX3_advance_91 : decode cX3_advance 91 = .ok (.invokestatic 158, 3) := by decide +kernel
theorem dX3_advance_94 : decode cX3_advance 94 = .ok (.ifCond .eq 52, 3) := by decide +kernel
theorem dX3_advance_97 : decode cX3_advance 97 = .ok (.aload_n 0, 1) := by decide +kernel
theorem dX3_advance_98 : decode cX3_advance 98 = .ok (.iconst 1, 1) := by decide +kernel
theorem dX3_advance_99 : decode cX3_advance 99 = .ok (.putfield 36, 3) := by decide +kernel
theorem dX3_advance_102 : decode cX3_advance 102 = .ok (.aload_n 0, 1) := by decide +kernel
theorem dX3_advance_103 : decode cX3_advance 103 = .ok (.getfield 22, 3) := by decide +kernel
theorem dX3_advance_106 : decode cX3_advance 106 = .ok (.aload_n 0, 1) := by decide +kernel
theorem dX3_advance_107 : decode cX3_advance 107 = .ok (.getfield 15, 3) := by decide +kernel
theorem dX3_advance_110 : decode cX3_advance 110 = .ok (.invokevirtual 39, 3) := by decide +kernel
theorem dX3_advance_113 : decode cX3_advance 113 = .ok (.if_icmp .ge 160, 3) := by decide +kernel
theorem dX3_advance_116 : decode cX3_advance 116 = .ok (.aload_n 0, 1) := by decide +kernel
theorem dX3_advance_117 : decode cX3_advance 117 = .ok (.getfield 15, 3) := by decide +kernel
theorem dX3_advance_120 : decode cX3_advance 120 = .ok (.aload_n 0, 1) := by decide +kernel
theorem dX3_advance_121 : decode cX3_advance 121 = .ok (.getfield 22, 3) := by decide +kernel
theorem dX3_advance_124 : decode cX3_advance 124 = .ok (.invokevirtual 146, 3) := by decide +kernel
theorem dX3_advance_127 : decode cX3_advance 127 = .ok (.invokestatic 158, 3) := by decide +kernel
theorem dX3_advance_130 : decode cX3_advance 130 = .ok (.ifCond .eq 143, 3) := by decide +kernel
theorem dX3_advance_133 : decode cX3_advance 133 = .ok (.aload_n 0, 1) := by decide +kernel
theorem dX3_advance_134 : decode cX3_advance 134 = .ok (.dup, 1) := by decide +kernel
theorem dX3_advance_135 : decode cX3_advance 135 = .ok (.getfield 22, 3) := by decide +kernel
theorem dX3_advance_138 : decode cX3_advance 138 = .ok (.iconst 1, 1) := by decide +kernel
theorem dX3_advance_139 : decode cX3_advance 139 = .ok (.iadd, 1) := by decide +kernel
theorem dX3_advance_140 : decode cX3_advance 140 = .ok (.putfield 22, 3) := by decide +kernel
theorem dX3_advance_143 : decode cX3_advance 143 = .ok (.goto (-41), 3) := by decide +kernel
theorem dX3_advance_146 : decode cX3_advance 146 = .ok (.iload_n 1, 1) := by decide +kernel
theorem dX3_advance_147 : decode cX3_advance 147 = .ok (.invokestatic 161, 3) := by decide +kernel
theorem dX3_advance_150 : decode cX3_advance 150 = .ok (.ifCond .eq 98, 3) := by decide +kernel
theorem dX3_advance_153 : decode cX3_advance 153 = .ok (.aload_n 0, 1) := by decide +kernel
theorem dX3_advance_154 : decode cX3_advance 154 = .ok (.getfield 22, 3) := by decide +kernel
theorem dX3_advance_157 : decode cX3_advance 157 = .ok (.aload_n 0, 1) := by decide +kernel
theorem dX3_advance_158 : decode cX3_advance 158 = .ok (.getfield 15, 3) := by decide +kernel
theorem dX3_advance_161 : decode cX3_advance 161 = .ok (.invokevirtual 39, 3) := by decide +kernel
theorem dX3_advance_164 : decode cX3_advance 164 = .ok (.if_icmp .ge 59, 3) := by decide +kernel
theorem dX3_advance_167 : decode cX3_advance 167 = .ok (.aload_n 0, 1) := by decide +kernel
theorem dX3_advance_168 : decode cX3_advance 168 = .ok (.getfield 15, 3) := by decide +kernel
theorem dX3_advance_171 : decode cX3_advance 171 = .ok (.aload_n 0, 1) := by decide +kernel
theorem dX3_advance_172 : decode cX3_advance 172 = .ok (.getfield 22, 3) := by decide +kernel
theorem dX3_advance_175 : decode cX3_advance 175 = .ok (.invokevirtual 146, 3) := by decide +kernel
theorem dX3_advance_178 : decode cX3_advance 178 = .ok (.invokestatic 161, 3) := by decide +kernel
theorem dX3_advance_181 : decode cX3_advance 181 = .ok (.ifCond .eq 42, 3) := by decide +kernel
theorem dX3_advance_184 : decode cX3_advance 184 = .ok (.aload_n 0, 1) := by decide +kernel
theorem dX3_advance_185 : decode cX3_advance 185 = .ok (.aload_n 0, 1) := by decide +kernel
theorem dX3_advance_186 : decode cX3_advance 186 = .ok (.getfield 133, 3) := by decide +kernel
theorem dX3_advance_189 : decode cX3_advance 189 = .ok (.bipush 10, 2) := by decide +kernel
theorem dX3_advance_191 : decode cX3_advance 191 = .ok (.imul, 1) := by decide +kernel
theorem dX3_advance_192 : decode cX3_advance 192 = .ok (.aload_n 0, 1) := by decide +kernel
theorem dX3_advance_193 : decode cX3_advance 193 = .ok (.getfield 15, 3) := by decide +kernel
theorem dX3_advance_196 : decode cX3_advance 196 = .ok (.aload_n 0, 1) := by decide +kernel
theorem dX3_advance_197 : decode cX3_advance 197 = .ok (.getfield 22, 3) := by decide +kernel
theorem dX3_advance_200 : decode cX3_advance 200 = .ok (.invokevirtual 146, 3) := by decide +kernel
theorem dX3_advance_203 : decode cX3_advance 203 = .ok (.iadd, 1) := by decide +kernel
theorem dX3_advance_204 : decode cX3_advance 204 = .ok (.bipush 48, 2) := by decide +kernel
theorem dX3_advance_206 : decode cX3_advance 206 = .ok (.isub, 1) := by decide +kernel
theorem dX3_advance_207 : decode cX3_advance 207 = .ok (.putfield 133, 3) := by decide +kernel
theorem dX3_advance_210 : decode cX3_advance 210 = .ok (.aload_n 0, 1) := by decide +kernel
theorem dX3_advance_211 : decode cX3_advance 211 = .ok (.dup, 1) := by decide +kernel
theorem dX3_advance_212 : decode cX3_advance 212 = .ok (.getfield 22, 3) := by decide +kernel
theorem dX3_advance_215 : decode cX3_advance 215 = .ok (.iconst 1, 1) := by decide +kernel
theorem dX3_advance_216 : decode cX3_advance 216 = .ok (.iadd, 1) := by decide +kernel
theorem dX3_advance_217 : decode cX3_advance 217 = .ok (.putfield 22, 3) := by decide +kernel
theorem dX3_advance_220 : decode cX3_advance 220 = .ok (.goto (-67), 3) := by decide +kernel
theorem dX3_advance_223 : decode cX3_advance 223 = .ok (.aload_n 0, 1) := by decide +kernel
theorem dX3_advance_224 : decode cX3_advance 224 = .ok (.aload_n 0, 1) := by decide +kernel
theorem dX3_advance_225 : decode cX3_advance 225 = .ok (.getfield 22, 3) := by decide +kernel
theorem dX3_advance_228 : decode cX3_advance 228 = .ok (.aload_n 0, 1) := by decide +kernel
theorem dX3_advance_229 : decode cX3_advance 229 = .ok (.getfield 140, 3) := by decide +kernel
theorem dX3_advance_232 : decode cX3_advance 232 = .ok (.isub, 1) := by decide +kernel
theorem dX3_advance_233 : decode cX3_advance 233 = .ok (.iconst 4, 1) := by decide +kernel
theorem dX3_advance_234 : decode cX3_advance 234 = .ok (.if_icmp .gt 7, 3) := by decide +kernel
theorem dX3_advance_237 : decode cX3_advance 237 = .ok (.iconst 2, 1) := by decide +kernel
theorem dX3_advance_238 : decode cX3_advance 238 = .ok (.goto 4, 3) := by decide +kernel
theorem dX3_advance_241 : decode cX3_advance 241 = .ok (.iconst 4, 1) := by decide +kernel
theorem dX3_advance_242 : decode cX3_advance 242 = .ok (.putfield 36, 3) := by decide +kernel
theorem dX3_advance_245 : decode cX3_advance 245 = .ok (.goto 28, 3) := by decide +kernel
theorem dX3_advance_248 : decode cX3_advance 248 = .ok (.aload_n 0, 1) := by decide +kernel
theorem dX3_advance_249 : decode cX3_advance 249 = .ok (.iload_n 1, 1) := by decide +kernel
theorem dX3_advance_250 : decode cX3_advance 250 = .ok (.bipush 59, 2) := by decide +kernel
theorem dX3_advance_252 : decode cX3_advance 252 = .ok (.if_icmp .ne 7, 3) := by decide +kernel
theorem dX3_advance_255 : decode cX3_advance 255 = .ok (.iconst 3, 1) := by decide +kernel
theorem dX3_advance_256 : decode cX3_advance 256 = .ok (.goto 4, 3) := by decide +kernel
theorem dX3_advance_259 : decode cX3_advance 259 = .ok (.iconst 4, 1) := by decide +kernel
theorem dX3_advance_260 : decode cX3_advance 260 = .ok (.putfield 36, 3) := by decide +kernel
theorem dX3_advance_263 : decode cX3_advance 263 = .ok (.aload_n 0, 1) := by decide +kernel
theorem dX3_advance_264 : decode cX3_advance 264 = .ok (.dup, 1) := by decide +kernel
theorem dX3_advance_265 : decode cX3_advance 265 = .ok (.getfield 22, 3) := by decide +kernel
theorem dX3_advance_268 : decode cX3_advance 268 = .ok (.iconst 1, 1) := by decide +kernel
theorem dX3_advance_269 : decode cX3_advance 269 = .ok (.iadd, 1) := by decide +kernel
theorem dX3_advance_270 : decode cX3_advance 270 = .ok (.putfield 22, 3) := by decide +kernel
theorem dX3_advance_273 : decode cX3_advance 273 = .ok (.return_, 1) := by decide +kernel
theorem dX3_isBlank_0 : decode cX3_isBlank 0 = .ok (.iload_n 0, 1) := by decide +kernel
theorem dX3_isBlank_1 : decode cX3_isBlank 1 = .ok (.bipush 32, 2) := by decide +kernel
theorem dX3_isBlank_3 : decode cX3_isBlank 3 = .ok (.if_icmp .eq 9, 3) := by decide +kernel
theorem dX3_isBlank_6 : decode cX3_isBlank 6 = .ok (.iload_n 0, 1) := by decide +kernel
theorem dX3_isBlank_7 : decode cX3_isBlank 7 = .ok (.bipush 10, 2) := by decide +kernel
theorem dX3_isBlank_9 : decode cX3_isBlank 9 = .ok (.if_icmp .ne 7, 3) := by decide +kernel
theorem dX3_isBlank_12 : decode cX3_isBlank 12 = .ok (.iconst 1, 1) := by decide +kernel
theorem dX3_isBlank_13 : decode cX3_isBlank 13 = .ok (.goto 4, 3) := by decide +kernel
theorem dX3_isBlank_16 : decode cX3_isBlank 16 = .ok (.iconst 0, 1) := by decide +kernel
theorem dX3_isBlank_17 : decode cX3_isBlank 17 = .ok (.ireturn, 1) := by decide +kernel
theorem dX3_isLetter_0 : decode cX3_isLetter 0 = .ok (.iload_n 0, 1) := by decide +kernel
theorem dX3_isLetter_1 : decode cX3_isLetter 1 = .ok (.bipush 97, 2) := by decide +kernel
theorem dX3_isLetter_3 : decode cX3_isLetter 3 = .ok (.if_icmp .lt 13, 3) := by decide +kernel
theorem dX3_isLetter_6 : decode cX3_isLetter 6 = .ok (.iload_n 0, 1) := by decide +kernel
theorem dX3_isLetter_7 : decode cX3_isLetter 7 = .ok (.bipush 122, 2) := by decide +kernel
theorem dX3_isLetter_9 : decode cX3_isLetter 9 = .ok (.if_icmp .gt 7, 3) := by decide +kernel
theorem dX3_isLetter_12 : decode cX3_isLetter 12 = .ok (.iconst 1, 1) := by decide +kernel
theorem dX3_isLetter_13 : decode cX3_isLetter 13 = .ok (.goto 4, 3) := by decide +kernel
theorem dX3_isLetter_16 : decode cX3_isLetter 16 = .ok (.iconst 0, 1) := by decide +kernel
theorem dX3_isLetter_17 : decode cX3_isLetter 17 = .ok (.ireturn, 1) := by decide +kernel
theorem dX3_isDigit_0 : decode cX3_isDigit 0 = .ok (.iload_n 0, 1) := by decide +kernel
theorem dX3_isDigit_1 : decode cX3_isDigit 1 = .ok (.bipush 48, 2) := by decide +kernel
theorem dX3_isDigit_3 : decode cX3_isDigit 3 = .ok (.if_icmp .lt 13, 3) := by decide +kernel
theorem dX3_isDigit_6 : decode cX3_isDigit 6 = .ok (.iload_n 0, 1) := by decide +kernel
theorem dX3_isDigit_7 : decode cX3_isDigit 7 = .ok (.bipush 57, 2) := by decide +kernel
theorem dX3_isDigit_9 : decode cX3_isDigit 9 = .ok (.if_icmp .gt 7, 3) := by decide +kernel
theorem dX3_isDigit_12 : decode cX3_isDigit 12 = .ok (.iconst 1, 1) := by decide +kernel
theorem dX3_isDigit_13 : decode cX3_isDigit 13 = .ok (.goto 4, 3) := by decide +kernel
theorem dX3_isDigit_16 : decode cX3_isDigit 16 = .ok (.iconst 0, 1) := by decide +kernel
theorem dX3_isDigit_17 : decode cX3_isDigit 17 = .ok (.ireturn, 1) := by decide +kernel
theorem dX4_init_0 : decode cX4_init 0 = .ok (.aload_n 0, 1) := by decide +kernel
theorem dX4_init_1 : decode cX4_init 1 = .ok (.invokespecial 3, 3) := by decide +kernel
theorem dX4_init_4 : decode cX4_init 4 = .ok (.aload_n 0, 1) := by decide +kernel
theorem dX4_init_5 : decode cX4_init 5 = .ok (.bipush 12, 2) := by decide +kernel
theorem dX4_init_7 : decode cX4_init 7 = .ok (.newarray .int, 2) := by decide +kernel
theorem dX4_init_9 : decode cX4_init 9 = .ok (.putfield 11, 3) := by decide +kernel
theorem dX4_init_12 : decode cX4_init 12 = .ok (.aload_n 0, 1) := by decide +kernel
theorem dX4_init_13 : decode cX4_init 13 = .ok (.bipush 12, 2) := by decide +kernel
theorem dX4_init_15 : decode cX4_init 15 = .ok (.newarray .int, 2) := by decide +kernel
theorem dX4_init_17 : decode cX4_init 17 = .ok (.putfield 15, 3) := by decide +kernel
theorem dX4_init_20 : decode cX4_init 20 = .ok (.aload_n 0, 1) := by decide +kernel
theorem dX4_init_21 : decode cX4_init 21 = .ok (.bipush 12, 2) := by decide +kernel
theorem dX4_init_23 : decode cX4_init 23 = .ok (.newarray .int, 2) := by decide +kernel
theorem dX4_init_25 : decode cX4_init 25 = .ok (.putfield 18, 3) := by decide +kernel
theorem dX4_init_28 : decode cX4_init 28 = .ok (.aload_n 0, 1) := by decide +kernel
theorem dX4_init_29 : decode cX4_init 29 = .ok (.bipush 12, 2) := by decide +kernel
theorem dX4_init_31 : decode cX4_init 31 = .ok (.newarray .boolean, 2) := by decide +kernel
theorem dX4_init_33 : decode cX4_init 33 = .ok (.putfield 21, 3) := by decide +kernel
theorem dX4_init_36 : decode cX4_init 36 = .ok (.aload_n 0, 1) := by decide +kernel
theorem dX4_init_37 : decode cX4_init 37 = .ok (.invokevirtual 25, 3) := by decide +kernel
theorem dX4_init_40 : decode cX4_init 40 = .ok (.return_, 1) := by decide +kernel
theorem dX4_forget_0 : decode cX4_forget 0 = .ok (.aload_n 0, 1) := by decide +kernel
theorem dX4_forget_1 : decode cX4_forget 1 = .ok (.bipush 21, 2) := by decide +kernel
theorem dX4_forget_3 : decode cX4_forget 3 = .ok (.putfield 28, 3) := by decide +kernel
theorem dX4_forget_6 : decode cX4_forget 6 = .ok (.aload_n 0, 1) := by decide +kernel
theorem dX4_forget_7 : decode cX4_forget 7 = .ok (.bipush 60, 2) := by decide +kernel
theorem dX4_forget_9 : decode cX4_forget 9 = .ok (.putfield 32, 3) := by decide +kernel
theorem dX4_forget_12 : decode cX4_forget 12 = .ok (.aload_n 0, 1) := by decide +kernel
theorem dX4_forget_13 : decode cX4_forget 13 = .ok (.bipush 7, 2) := by decide +kernel
theorem dX4_forget_15 : decode cX4_forget 15 = .ok (.putfield 35, 3) := by decide +kernel
theorem dX4_forget_18 : decode cX4_forget 18 = .ok (.aload_n 0, 1) := by decide +kernel
theorem dX4_forget_19 : decode cX4_forget 19 = .ok (.bipush 100, 2) := by decide +kernel
theorem dX4_forget_21 : decode cX4_forget 21 = .ok (.putfield 38, 3) := by decide +kernel
theorem dX4_forget_24 : decode cX4_forget 24 = .ok (.aload_n 0, 1) := by decide +kernel
theorem dX4_forget_25 : decode cX4_forget 25 = .ok (.iconst (-1), 1) := by decide +kernel
theorem dX4_forget_26 : decode cX4_forget 26 = .ok (.putfield 41, 3) := by decide +kernel
theorem dX4_forget_29 : decode cX4_forget 29 = .ok (.aload_n 0, 1) := by decide +kernel
theorem dX4_forget_30 : decode cX4_forget 30 = .ok (.iconst (-1), 1) := by decide +kernel
theorem dX4_forget_31 : decode cX4_forget 31 = .ok (.putfield 44, 3) := by decide +kernel
theorem dX4_forget_34 : decode cX4_forget 34 = .ok (.aload_n 0, 1) := by decide +kernel
theorem dX4_forget_35 : decode cX4_forget 35 = .ok (.iconst 0, 1) := by decide +kernel
theorem dX4_forget_36 : decode cX4_forget 36 = .ok (.putfield 47, 3) := by decide +kernel
theorem dX4_forget_39 : decode cX4_forget 39 = .ok (.aload_n 0, 1) := by decide +kernel
theorem dX4_forget_40 : decode cX4_forget 40 = .ok (.iconst 4, 1) := by decide +kernel
theorem dX4_forget_41 : decode cX4_forget 41 = .ok (.putfield 51, 3) := by decide +kernel
theorem dX4_forget_44 : decode cX4_forget 44 = .ok (.aload_n 0, 1) := by decide +kernel
theorem dX4_forget_45 : decode cX4_forget 45 = .ok (.iconst 0, 1) := by decide +kernel
theorem dX4_forget_46 : decode cX4_forget 46 = .ok (.putfield 54, 3) := by decide +kernel
theorem dX4_forget_49 : decode cX4_forget 49 = .ok (.return_, 1) := by decide +kernel
theorem dX4_hasRoomForPower_0 : decode cX4_hasRoomForPower 0 = .ok (.aload_n 0, 1) := by decide +kernel
theorem dX4_hasRoomForPower_1 : decode cX4_hasRoomForPower 1 = .ok (.getfield 54, 3) := by decide +kernel
theorem dX4_hasRoomForPower_4 : decode cX4_hasRoomForPower 4 = .ok (.bipush 12, 2) := by decide +kernel
theorem dX4_hasRoomForPower_6 : decode cX4_hasRoomForPower 6 = .ok (.if_icmp .ge 7, 3) := by decide +kernel
theorem dX4_hasRoomForPower_9 : decode cX4_hasRoomForPower 9 = .ok (.iconst 1, 1) := by decide +kernel
theorem dX4_hasRoomForPower_10 : decode cX4_hasRoomForPower 10 = .ok (.goto 4, 3) := by decide +kernel
theorem dX4_hasRoomForPower_13 : decode cX4_hasRoomForPower 13 = .ok (.iconst 0, 1) := by decide +kernel
theorem dX4_hasRoomForPower_14 : decode cX4_hasRoomForPower 14 = .ok (.ireturn, 1) := by decide +kernel
theorem dX4_addPower_0 : decode cX4_addPower 0 = .ok (.aload_n 0, 1) := by decide +kernel
theorem dX4_addPower_1 : decode cX4_addPower 1 = .ok (.invokevirtual 57, 3) := by decide +kernel
theorem dX4_addPower_4 : decode cX4_addPower 4 = .ok (.ifCond .eq 54, 3) := by decide +kernel
theorem dX4_addPower_7 : decode cX4_addPower 7 = .ok (.aload_n 0, 1) := by decide +kernel
theorem dX4_addPower_8 : decode cX4_addPower 8 = .ok (.getfield 11, 3) := by decide +kernel
theorem dX4_addPower_11 : decode cX4_addPower 11 = .ok (.aload_n 0, 1) := by decide +kernel
theorem dX4_addPower_12 : decode cX4_addPower 12 = .ok (.getfield 54, 3) := by decide +kernel
theorem dX4_addPower_15 : decode cX4_addPower 15 = .ok (.iload_n 1, 1) := by decide +kernel
theorem dX4_addPower_16 : decode cX4_addPower 16 = .ok (.iastore, 1) := by decide +kernel
theorem dX4_addPower_17 : decode cX4_addPower 17 = .ok (.aload_n 0, 1) := by decide +kernel
theorem dX4_addPower_18 : decode cX4_addPower 18 = .ok (.getfield 15, 3) := by decide +kernel
theorem dX4_addPower_21 : decode cX4_addPower 21 = .ok (.aload_n 0, 1) := by decide +kernel
theorem dX4_addPower_22 : decode cX4_addPower 22 = .ok (.getfield 54, 3) := by decide +kernel
theorem dX4_addPower_25 : decode cX4_addPower 25 = .ok (.iload_n 2, 1) := by decide +kernel
theorem dX4_addPower_26 : decode cX4_addPower 26 = .ok (.iastore, 1) := by decide +kernel
theorem dX4_addPower_27 : decode cX4_addPower 27 = .ok (.aload_n 0, 1) := by decide +kernel
theorem dX4_addPower_28 : decode cX4_addPower 28 = .ok (.getfield 18, 3) := by decide +kernel
theorem dX4_addPower_31 : decode cX4_addPower 31 = .ok (.aload_n 0, 1) := by decide +kernel
theorem dX4_addPower_32 : decode cX4_addPower 32 = .ok (.getfield 54, 3) := by decide +kernel
theorem dX4_addPower_35 : decode cX4_addPower 35 = .ok (.iload_n 3, 1) := by decide +kernel
theorem dX4_addPower_36 : decode cX4_addPower 36 = .ok (.iastore, 1) := by decide +kernel

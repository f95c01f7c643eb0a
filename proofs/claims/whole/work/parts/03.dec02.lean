theorem dX6_keepPartOf_77 : decode cX6_keepPartOf 77 = .ok (.goto (-71), 3) := by decide +kernel
theorem dX6_keepPartOf_80 : decode cX6_keepPartOf 80 = .ok (.iload 4, 2) := by decide +kernel
theorem dX6_keepPartOf_82 : decode cX6_keepPartOf 82 = .ok (.ireturn, 1) := by decide +kernel
theorem dX7_init_0 : decode cX7_init 0 = .ok (.aload_n 0, 1) := by decide +kernel
theorem dX7_init_1 : decode cX7_init 1 = .ok (.invokespecial 3, 3) := by decide +kernel
theorem dX7_init_4 : decode cX7_init 4 = .ok (.aload_n 0, 1) := by decide +kernel
theorem dX7_init_5 : decode cX7_init 5 = .ok (.bipush 60, 2) := by decide +kernel
theorem dX7_init_7 : decode cX7_init 7 = .ok (.anewarray 11, 3) := by decide +kernel
theorem dX7_init_10 : decode cX7_init 10 = .ok (.putfield 13, 3) := by decide +kernel
theorem dX7_init_13 : decode cX7_init 13 = .ok (.return_, 1) := by decide +kernel
theorem dX7_size_0 : decode cX7_size 0 = .ok (.aload_n 0, 1) := by decide +kernel
theorem dX7_size_1 : decode cX7_size 1 = .ok (.getfield 17, 3) := by decide +kernel
theorem dX7_size_4 : decode cX7_size 4 = .ok (.ireturn, 1) := by decide +kernel
theorem dX7_add_0 : decode cX7_add 0 = .ok (.aload_n 0, 1) := by decide +kernel
theorem dX7_add_1 : decode cX7_add 1 = .ok (.getfield 17, 3) := by decide +kernel
theorem dX7_add_4 : decode cX7_add 4 = .ok (.bipush 60, 2) := by decide +kernel
theorem dX7_add_6 : decode cX7_add 6 = .ok (.if_icmp .lt 6, 3) := by decide +kernel
theorem dX7_add_9 : decode cX7_add 9 = .ok (.bipush (-3), 2) := by decide +kernel
theorem dX7_add_11 : decode cX7_add 11 = .ok (.ireturn, 1) := by decide +kernel
theorem dX7_add_12 : decode cX7_add 12 = .ok (.aload_n 0, 1) := by decide +kernel
theorem dX7_add_13 : decode cX7_add 13 = .ok (.getfield 13, 3) := by decide +kernel
theorem dX7_add_16 : decode cX7_add 16 = .ok (.aload_n 0, 1) := by decide +kernel
theorem dX7_add_17 : decode cX7_add 17 = .ok (.getfield 17, 3) := by decide +kernel
theorem dX7_add_20 : decode cX7_add 20 = .ok (.new 11, 3) := by decide +kernel
theorem dX7_add_23 : decode cX7_add 23 = .ok (.dup, 1) := by decide +kernel
theorem dX7_add_24 : decode cX7_add 24 = .ok (.iload_n 1, 1) := by decide +kernel
theorem dX7_add_25 : decode cX7_add 25 = .ok (.iload_n 2, 1) := by decide +kernel
theorem dX7_add_26 : decode cX7_add 26 = .ok (.invokespecial 21, 3) := by decide +kernel
theorem dX7_add_29 : decode cX7_add 29 = .ok (.aastore, 1) := by decide +kernel
theorem dX7_add_30 : decode cX7_add 30 = .ok (.aload_n 0, 1) := by decide +kernel
theorem dX7_add_31 : decode cX7_add 31 = .ok (.dup, 1) := by decide +kernel
theorem dX7_add_32 : decode cX7_add 32 = .ok (.getfield 17, 3) := by decide +kernel
theorem dX7_add_35 : decode cX7_add 35 = .ok (.iconst 1, 1) := by decide +kernel
theorem dX7_add_36 : decode cX7_add 36 = .ok (.iadd, 1) := by decide +kernel
theorem dX7_add_37 : decode cX7_add 37 = .ok (.putfield 17, 3) := by decide +kernel
theorem dX7_add_40 : decode cX7_add 40 = .ok (.aload_n 0, 1) := by decide +kernel
theorem dX7_add_41 : decode cX7_add 41 = .ok (.getfield 17, 3) := by decide +kernel
theorem dX7_add_44 : decode cX7_add 44 = .ok (.iconst 1, 1) := by decide +kernel
theorem dX7_add_45 : decode cX7_add 45 = .ok (.isub, 1) := by decide +kernel
theorem dX7_add_46 : decode cX7_add 46 = .ok (.ireturn, 1) := by decide +kernel
theorem dX7_find_0 : decode cX7_find 0 = .ok (.iload_n 1, 1) := by decide +kernel
theorem dX7_find_1 : decode cX7_find 1 = .ok (.ifCond .lt 20, 3) := by decide +kernel
theorem dX7_find_4 : decode cX7_find 4 = .ok (.iload_n 1, 1) := by decide +kernel
theorem dX7_find_5 : decode cX7_find 5 = .ok (.aload_n 0, 1) := by decide +kernel
theorem dX7_find_6 : decode cX7_find 6 = .ok (.getfield 17, 3) := by decide +kernel
theorem dX7_find_9 : decode cX7_find 9 = .ok (.if_icmp .ge 12, 3) := by decide +kernel
theorem dX7_find_12 : decode cX7_find 12 = .ok (.aload_n 0, 1) := by decide +kernel
theorem dX7_find_13 : decode cX7_find 13 = .ok (.getfield 13, 3) := by decide +kernel
theorem dX7_find_16 : decode cX7_find 16 = .ok (.iload_n 1, 1) := by decide +kernel
theorem dX7_find_17 : decode cX7_find 17 = .ok (.aaload, 1) := by decide +kernel
theorem dX7_find_18 : decode cX7_find 18 = .ok (.goto 4, 3) := by decide +kernel
theorem dX7_find_21 : decode cX7_find 21 = .ok (.aconst_null, 1) := by decide +kernel
theorem dX7_find_22 : decode cX7_find 22 = .ok (.areturn, 1) := by decide +kernel
theorem dX7_fillYear_0 : decode cX7_fillYear 0 = .ok (.aload_n 2, 1) := by decide +kernel
theorem dX7_fillYear_1 : decode cX7_fillYear 1 = .ok (.iload_n 3, 1) := by decide +kernel
theorem dX7_fillYear_2 : decode cX7_fillYear 2 = .ok (.invokevirtual 24, 3) := by decide +kernel
theorem dX7_fillYear_5 : decode cX7_fillYear 5 = .ok (.aload_n 2, 1) := by decide +kernel
theorem dX7_fillYear_6 : decode cX7_fillYear 6 = .ok (.getfield 30, 3) := by decide +kernel
theorem dX7_fillYear_9 : decode cX7_fillYear 9 = .ok (.iconst 1, 1) := by decide +kernel
theorem dX7_fillYear_10 : decode cX7_fillYear 10 = .ok (.iadd, 1) := by decide +kernel
theorem dX7_fillYear_11 : decode cX7_fillYear 11 = .ok (.istore 4, 2) := by decide +kernel
theorem dX7_fillYear_13 : decode cX7_fillYear 13 = .ok (.iconst 0, 1) := by decide +kernel
theorem dX7_fillYear_14 : decode cX7_fillYear 14 = .ok (.istore 5, 2) := by decide +kernel
theorem dX7_fillYear_16 : decode cX7_fillYear 16 = .ok (.iload 5, 2) := by decide +kernel
theorem dX7_fillYear_18 : decode cX7_fillYear 18 = .ok (.aload_n 0, 1) := by decide +kernel
theorem dX7_fillYear_19 : decode cX7_fillYear 19 = .ok (.getfield 17, 3) := by decide +kernel
theorem dX7_fillYear_22 : decode cX7_fillYear 22 = .ok (.if_icmp .ge 109, 3) := by decide +kernel
theorem dX7_fillYear_25 : decode cX7_fillYear 25 = .ok (.iload 4, 2) := by decide +kernel
theorem dX7_fillYear_27 : decode cX7_fillYear 27 = .ok (.iload 5, 2) := by decide +kernel
theorem dX7_fillYear_29 : decode cX7_fillYear 29 = .ok (.iadd, 1) := by decide +kernel
theorem dX7_fillYear_30 : decode cX7_fillYear 30 = .ok (.aload_n 0, 1) := by decide +kernel
theorem dX7_fillYear_31 : decode cX7_fillYear 31 = .ok (.getfield 17, 3) := by decide +kernel
theorem dX7_fillYear_34 : decode cX7_fillYear 34 = .ok (.irem, 1) := by decide +kernel
theorem dX7_fillYear_35 : decode cX7_fillYear 35 = .ok (.istore 6, 2) := by decide +kernel
theorem dX7_fillYear_37 : decode cX7_fillYear 37 = .ok (.aload_n 0, 1) := by decide +kernel
theorem dX7_fillYear_38 : decode cX7_fillYear 38 = .ok (.getfield 13, 3) := by decide +kernel
theorem dX7_fillYear_41 : decode cX7_fillYear 41 = .ok (.iload 6, 2) := by decide +kernel
theorem dX7_fillYear_43 : decode cX7_fillYear 43 = .ok (.aaload, 1) := by decide +kernel
theorem dX7_fillYear_44 : decode cX7_fillYear 44 = .ok (.astore 7, 2) := by decide +kernel
theorem dX7_fillYear_46 : decode cX7_fillYear 46 = .ok (.aload 7, 2) := by decide +kernel
theorem dX7_fillYear_48 : decode cX7_fillYear 48 = .ok (.getfield 33, 3) := by decide +kernel
theorem dX7_fillYear_51 : decode cX7_fillYear 51 = .ok (.iload_n 1, 1) := by decide +kernel
theorem dX7_fillYear_52 : decode cX7_fillYear 52 = .ok (.if_icmp .ne 73, 3) := by decide +kernel
theorem dX7_fillYear_55 : decode cX7_fillYear 55 = .ok (.aload 7, 2) := by decide +kernel
theorem dX7_fillYear_57 : decode cX7_fillYear 57 = .ok (.aload_n 2, 1) := by decide +kernel
theorem dX7_fillYear_58 : decode cX7_fillYear 58 = .ok (.getfield 36, 3) := by decide +kernel
theorem dX7_fillYear_61 : decode cX7_fillYear 61 = .ok (.iload_n 3, 1) := by decide +kernel
theorem dX7_fillYear_62 : decode cX7_fillYear 62 = .ok (.invokevirtual 40, 3) := by decide +kernel
theorem dX7_fillYear_65 : decode cX7_fillYear 65 = .ok (.ifCond .eq 60, 3) := by decide +kernel
theorem dX7_fillYear_68 : decode cX7_fillYear 68 = .ok (.aload 7, 2) := by decide +kernel
theorem dX7_fillYear_70 : decode cX7_fillYear 70 = .ok (.iload_n 3, 1) := by decide +kernel
theorem dX7_fillYear_71 : decode cX7_fillYear 71 = .ok (.invokevirtual 44, 3) := by decide +kernel
theorem dX7_fillYear_74 : decode cX7_fillYear 74 = .ok (.aload_n 2, 1) := by decide +kernel
theorem dX7_fillYear_75 : decode cX7_fillYear 75 = .ok (.iload 6, 2) := by decide +kernel
theorem dX7_fillYear_77 : decode cX7_fillYear 77 = .ok (.putfield 30, 3) := by decide +kernel
theorem dX7_fillYear_80 : decode cX7_fillYear 80 = .ok (.aload 7, 2) := by decide +kernel
theorem dX7_fillYear_82 : decode cX7_fillYear 82 = .ok (.aload_n 2, 1) := by decide +kernel
theorem dX7_fillYear_83 : decode cX7_fillYear 83 = .ok (.getfield 36, 3) := by decide +kernel
theorem dX7_fillYear_86 : decode cX7_fillYear 86 = .ok (.invokevirtual 47, 3) := by decide +kernel
theorem dX7_fillYear_89 : decode cX7_fillYear 89 = .ok (.ifCond .ne 14, 3) := by decide +kernel
theorem dX7_fillYear_92 : decode cX7_fillYear 92 = .ok (.aload_n 0, 1) := by decide +kernel
theorem dX7_fillYear_93 : decode cX7_fillYear 93 = .ok (.iload 6, 2) := by decide +kernel
theorem dX7_fillYear_95 : decode cX7_fillYear 95 = .ok (.aload_n 2, 1) := by decide +kernel
theorem dX7_fillYear_96 : decode cX7_fillYear 96 = .ok (.iload_n 3, 1) := by decide +kernel
theorem dX7_fillYear_97 : decode cX7_fillYear 97 = .ok (.invokevirtual 51, 3) := by decide +kernel
theorem dX7_fillYear_100 : decode cX7_fillYear 100 = .ok (.iload 6, 2) := by decide +kernel
theorem dX7_fillYear_102 : decode cX7_fillYear 102 = .ok (.ireturn, 1) := by decide +kernel
theorem dX7_fillYear_103 : decode cX7_fillYear 103 = .ok (.aload 7, 2) := by decide +kernel
theorem dX7_fillYear_105 : decode cX7_fillYear 105 = .ok (.dup, 1) := by decide +kernel
theorem dX7_fillYear_106 : decode cX7_fillYear 106 = .ok (.getfield 55, 3) := by decide +kernel
theorem dX7_fillYear_109 : decode cX7_fillYear 109 = .ok (.aload_n 2, 1) := by decide +kernel
theorem dX7_fillYear_110 : decode cX7_fillYear 110 = .ok (.getfield 36, 3) := by decide +kernel
theorem dX7_fillYear_113 : decode cX7_fillYear 113 = .ok (.getfield 58, 3) := by decide +kernel
theorem dX7_fillYear_116 : decode cX7_fillYear 116 = .ok (.isub, 1) := by decide +kernel
theorem dX7_fillYear_117 : decode cX7_fillYear 117 = .ok (.putfield 55, 3) := by decide +kernel
theorem dX7_fillYear_120 : decode cX7_fillYear 120 = .ok (.aload_n 2, 1) := by decide +kernel
theorem dX7_fillYear_121 : decode cX7_fillYear 121 = .ok (.iload_n 3, 1) := by decide +kernel
theorem dX7_fillYear_122 : decode cX7_fillYear 122 = .ok (.invokevirtual 63, 3) := by decide +kernel
theorem dX7_fillYear_125 : decode cX7_fillYear 125 = .ok (.iinc 5 1, 3) := by decide +kernel
theorem dX7_fillYear_128 : decode cX7_fillYear 128 = .ok (.goto (-112), 3) := by decide +kernel
theorem dX7_fillYear_131 : decode cX7_fillYear 131 = .ok (.iconst (-1), 1) := by decide +kernel
theorem dX7_fillYear_132 : decode cX7_fillYear 132 = .ok (.ireturn, 1) := by decide +kernel
theorem dX7_appoint_0 : decode cX7_appoint 0 = .ok (.aload_n 0, 1) := by decide +kernel
theorem dX7_appoint_1 : decode cX7_appoint 1 = .ok (.getfield 13, 3) := by decide +kernel
theorem dX7_appoint_4 : decode cX7_appoint 4 = .ok (.iload_n 1, 1) := by decide +kernel
theorem dX7_appoint_5 : decode cX7_appoint 5 = .ok (.aaload, 1) := by decide +kernel
theorem dX7_appoint_6 : decode cX7_appoint 6 = .ok (.aload_n 2, 1) := by decide +kernel
theorem dX7_appoint_7 : decode cX7_appoint 7 = .ok (.getfield 36, 3) := by decide +kernel
theorem dX7_appoint_10 : decode cX7_appoint 10 = .ok (.invokevirtual 66, 3) := by decide +kernel
theorem dX7_appoint_13 : decode cX7_appoint 13 = .ok (.istore 4, 2) := by decide +kernel
theorem dX7_appoint_15 : decode cX7_appoint 15 = .ok (.iload 4, 2) := by decide +kernel
theorem dX7_appoint_17 : decode cX7_appoint 17 = .ok (.ifCond .eq 24, 3) := by decide +kernel
theorem dX7_appoint_20 : decode cX7_appoint 20 = .ok (.aload_n 0, 1) := by decide +kernel
theorem dX7_appoint_21 : decode cX7_appoint 21 = .ok (.getfield 13, 3) := by decide +kernel
theorem dX7_appoint_24 : decode cX7_appoint 24 = .ok (.iload_n 1, 1) := by decide +kernel
theorem dX7_appoint_25 : decode cX7_appoint 25 = .ok (.aaload, 1) := by decide +kernel
theorem dX7_appoint_26 : decode cX7_appoint 26 = .ok (.dup, 1) := by decide +kernel
theorem dX7_appoint_27 : decode cX7_appoint 27 = .ok (.getfield 55, 3) := by decide +kernel
theorem dX7_appoint_30 : decode cX7_appoint 30 = .ok (.aload_n 2, 1) := by decide +kernel
theorem dX7_appoint_31 : decode cX7_appoint 31 = .ok (.getfield 36, 3) := by decide +kernel
theorem dX7_appoint_34 : decode cX7_appoint 34 = .ok (.getfield 69, 3) := by decide +kernel
theorem dX7_appoint_37 : decode cX7_appoint 37 = .ok (.isub, 1) := by decide +kernel
theorem dX7_appoint_38 : decode cX7_appoint 38 = .ok (.putfield 55, 3) := by decide +kernel
theorem dX7_appoint_41 : decode cX7_appoint 41 = .ok (.aload_n 2, 1) := by decide +kernel
theorem dX7_appoint_42 : decode cX7_appoint 42 = .ok (.iload_n 3, 1) := by decide +kernel
theorem dX7_appoint_43 : decode cX7_appoint 43 = .ok (.iload_n 1, 1) := by decide +kernel
theorem dX7_appoint_44 : decode cX7_appoint 44 = .ok (.iload 4, 2) := by decide +kernel
theorem dX7_appoint_46 : decode cX7_appoint 46 = .ok (.invokevirtual 72, 3) := by decide +kernel
theorem dX7_appoint_49 : decode cX7_appoint 49 = .ok (.return_, 1) := by decide +kernel
theorem dX8_init_0 : decode cX8_init 0 = .ok (.aload_n 0, 1) := by decide +kernel
theorem dX8_init_1 : decode cX8_init 1 = .ok (.invokespecial 1, 3) := by decide +kernel
theorem dX8_init_4 : decode cX8_init 4 = .ok (.aload_n 0, 1) := by decide +kernel
theorem dX8_init_5 : decode cX8_init 5 = .ok (.sipush 800, 3) := by decide +kernel
theorem dX8_init_8 : decode cX8_init 8 = .ok (.newarray .byte, 2) := by decide +kernel
theorem dX8_init_10 : decode cX8_init 10 = .ok (.putfield 9, 3) := by decide +kernel
theorem dX8_init_13 : decode cX8_init 13 = .ok (.return_, 1) := by decide +kernel
theorem dX8_length_0 : decode cX8_length 0 = .ok (.aload_n 0, 1) := by decide +kernel
theorem dX8_length_1 : decode cX8_length 1 = .ok (.getfield 13, 3) := by decide +kernel
theorem dX8_length_4 : decode cX8_length 4 = .ok (.ireturn, 1) := by decide +kernel
theorem dX8_hasRoomFor_0 : decode cX8_hasRoomFor 0 = .ok (.aload_n 0, 1) := by decide +kernel
theorem dX8_hasRoomFor_1 : decode cX8_hasRoomFor 1 = .ok (.getfield 13, 3) := by decide +kernel
theorem dX8_hasRoomFor_4 : decode cX8_hasRoomFor 4 = .ok (.iload_n 1, 1) := by decide +kernel
theorem dX8_hasRoomFor_5 : decode cX8_hasRoomFor 5 = .ok (.iadd, 1) := by decide +kernel
theorem dX8_hasRoomFor_6 : decode cX8_hasRoomFor 6 = .ok (.sipush 800, 3) := by decide +kernel
theorem dX8_hasRoomFor_9 : decode cX8_hasRoomFor 9 = .ok (.if_icmp .gt 7, 3) := by decide +kernel
theorem dX8_hasRoomFor_12 : decode cX8_hasRoomFor 12 = .ok (.iconst 1, 1) := by decide +kernel
theorem dX8_hasRoomFor_13 : decode cX8_hasRoomFor 13 = .ok (.goto 4, 3) := by decide +kernel
theorem dX8_hasRoomFor_16 : decode cX8_hasRoomFor 16 = .ok (.iconst 0, 1) := by decide +kernel
theorem dX8_hasRoomFor_17 : decode cX8_hasRoomFor 17 = .ok (.ireturn, 1) := by decide +kernel
theorem dX8_append_0 : decode cX8_append 0 = .ok (.bipush 24, 2) := by decide +kernel
theorem dX8_append_2 : decode cX8_append 2 = .ok (.istore_n 2, 1) := by decide +kernel
theorem dX8_append_3 : decode cX8_append 3 = .ok (.iload_n 2, 1) := by decide +kernel
theorem dX8_append_4 : decode cX8_append 4 = .ok (.ifCond .lt 42, 3) := by decide +kernel
theorem dX8_append_7 : decode cX8_append 7 = .ok (.aload_n 0, 1) := by decide +kernel
theorem dX8_append_8 : decode cX8_append 8 = .ok (.getfield 13, 3) := by decide +kernel
theorem dX8_append_11 : decode cX8_append 11 = .ok (.sipush 800, 3) := by decide +kernel
theorem dX8_append_14 : decode cX8_append 14 = .ok (.if_icmp .ge 32, 3) := by decide +kernel
theorem dX8_append_17 : decode cX8_append 17 = .ok (.aload_n 0, 1) := by decide +kernel
theorem dX8_append_18 : decode cX8_append 18 = .ok (.getfield 9, 3) := by decide +kernel
theorem dX8_append_21 : decode cX8_append 21 = .ok (.aload_n 0, 1) := by decide +kernel
theorem dX8_append_22 : decode cX8_append 22 = .ok (.getfield 13, 3) := by decide +kernel
theorem dX8_append_25 : decode cX8_append 25 = .ok (.iload_n 1, 1) := by decide +kernel
theorem dX8_append_26 : decode cX8_append 26 = .ok (.iload_n 2, 1) := by decide +kernel
theorem dX8_append_27 : decode cX8_append 27 = .ok (.ishr, 1) := by decide +kernel
theorem dX8_append_28 : decode cX8_append 28 = .ok (.i2b, 1) := by decide +kernel
theorem dX8_append_29 : decode cX8_append 29 = .ok (.bastore, 1) := by decide +kernel
theorem dX8_append_30 : decode cX8_append 30 = .ok (.aload_n 0, 1) := by decide +kernel
theorem dX8_append_31 : decode cX8_append 31 = .ok (.dup, 1) := by decide +kernel
theorem dX8_append_32 : decode cX8_append 32 = .ok (.getfield 13, 3) := by decide +kernel
theorem dX8_append_35 : decode cX8_append 35 = .ok (.iconst 1, 1) := by decide +kernel
theorem dX8_append_36 : decode cX8_append 36 = .ok (.iadd, 1) := by decide +kernel
theorem dX8_append_37 : decode cX8_append 37 = .ok (.putfield 13, 3) := by decide +kernel
theorem dX8_append_40 : decode cX8_append 40 = .ok (.iinc 2 (-8), 3) := by decide +kernel
theorem dX8_append_43 : decode cX8_append 43 = .ok (.goto (-40), 3) := by decide +kernel
theorem dX8_append_46 : decode cX8_append 46 = .ok (.return_, 1) := by decide +kernel
theorem dX8_cut_0 : decode cX8_cut 0 = .ok (.aload_n 0, 1) := by decide +kernel
theorem dX8_cut_1 : decode cX8_cut 1 = .ok (.iload_n 1, 1) := by decide +kernel
theorem dX8_cut_2 : decode cX8_cut 2 = .ok (.putfield 13, 3) := by decide +kernel
theorem dX8_cut_5 : decode cX8_cut 5 = .ok (.return_, 1) := by decide +kernel
theorem dX8_at_0 : decode cX8_at 0 = .ok (.iload_n 1, 1) := by decide +kernel
theorem dX8_at_1 : decode cX8_at 1 = .ok (.ifCond .lt 24, 3) := by decide +kernel
theorem dX8_at_4 : decode cX8_at 4 = .ok (.iload_n 1, 1) := by decide +kernel
theorem dX8_at_5 : decode cX8_at 5 = .ok (.aload_n 0, 1) := by decide +kernel
theorem dX8_at_6 : decode cX8_at 6 = .ok (.getfield 13, 3) := by decide +kernel
theorem dX8_at_9 : decode cX8_at 9 = .ok (.if_icmp .ge 16, 3) := by decide +kernel
theorem dX8_at_12 : decode cX8_at 12 = .ok (.aload_n 0, 1) := by decide +kernel
theorem dX8_at_13 : decode cX8_at 13 = .ok (.getfield 9, 3) := by decide +kernel
theorem dX8_at_16 : decode cX8_at 16 = .ok (.iload_n 1, 1) := by decide +kernel
theorem dX8_at_17 : decode cX8_at 17 = .ok (.baload, 1) := by decide +kernel
theorem dX8_at_18 : decode cX8_at 18 = .ok (.sipush 255, 3) := by decide +kernel
theorem dX8_at_21 : decode cX8_at 21 = .ok (.iand, 1) := by decide +kernel
theorem dX8_at_22 : decode cX8_at 22 = .ok (.goto 4, 3) := by decide +kernel
theorem dX8_at_25 : decode cX8_at 25 = .ok (.iconst (-1), 1) := by decide +kernel
theorem dX8_at_26 : decode cX8_at 26 = .ok (.ireturn, 1) := by decide +kernel
theorem dX9_init_0 : decode cX9_init 0 = .ok (.aload_n 0, 1) := by decide +kernel
theorem dX9_init_1 : decode cX9_init 1 = .ok (.invokespecial 3, 3) := by decide +kernel
theorem dX9_init_4 : decode cX9_init 4 = .ok (.aload_n 0, 1) := by decide +kernel
theorem dX9_init_5 : decode cX9_init 5 = .ok (.bipush 12, 2) := by decide +kernel
theorem dX9_init_7 : decode cX9_init 7 = .ok (.newarray .int, 2) := by decide +kernel
theorem dX9_init_9 : decode cX9_init 9 = .ok (.putfield 9, 3) := by decide +kernel
theorem dX9_init_12 : decode cX9_init 12 = .ok (.aload_n 0, 1) := by decide +kernel
theorem dX9_init_13 : decode cX9_init 13 = .ok (.bipush 12, 2) := by decide +kernel
theorem dX9_init_15 : decode cX9_init 15 = .ok (.newarray .int, 2) := by decide +kernel
theorem dX9_init_17 : decode cX9_init 17 = .ok (.putfield 15, 3) := by decide +kernel
theorem dX9_init_20 : decode cX9_init 20 = .ok (.aload_n 0, 1) := by decide +kernel
theorem dX9_init_21 : decode cX9_init 21 = .ok (.sipush 144, 3) := by decide +kernel
theorem dX9_init_24 : decode cX9_init 24 = .ok (.newarray .int, 2) := by decide +kernel
theorem dX9_init_26 : decode cX9_init 26 = .ok (.putfield 18, 3) := by decide +kernel
theorem dX9_init_29 : decode cX9_init 29 = .ok (.aload_n 0, 1) := by decide +kernel
theorem dX9_init_30 : decode cX9_init 30 = .ok (.sipush 144, 3) := by decide +kernel
theorem dX9_init_33 : decode cX9_init 33 = .ok (.newarray .int, 2) := by decide +kernel
theorem dX9_init_35 : decode cX9_init 35 = .ok (.putfield 21, 3) := by decide +kernel
theorem dX9_init_38 : decode cX9_init 38 = .ok (.aload_n 0, 1) := by decide +kernel
theorem dX9_init_39 : decode cX9_init 39 = .ok (.iconst 1, 1) := by decide +kernel
theorem dX9_init_40 : decode cX9_init 40 = .ok (.putfield 24, 3) := by decide +kernel
theorem dX9_init_43 : decode cX9_init 43 = .ok (.aload_n 0, 1) := by decide +kernel
theorem dX9_init_44 : decode cX9_init 44 = .ok (.getfield 15, 3) := by decide +kernel
theorem dX9_init_47 : decode cX9_init 47 = .ok (.bipush 60, 2) := by decide +kernel
theorem dX9_init_49 : decode cX9_init 49 = .ok (.invokestatic 28, 3) := by decide +kernel
theorem dX9_init_52 : decode cX9_init 52 = .ok (.aload_n 0, 1) := by decide +kernel
theorem dX9_init_53 : decode cX9_init 53 = .ok (.getfield 18, 3) := by decide +kernel
theorem dX9_init_56 : decode cX9_init 56 = .ok (.iconst (-1), 1) := by decide +kernel
theorem dX9_init_57 : decode cX9_init 57 = .ok (.invokestatic 28, 3) := by decide +kernel
theorem dX9_init_60 : decode cX9_init 60 = .ok (.return_, 1) := by decide +kernel
theorem dX9_place_0 : decode cX9_place 0 = .ok (.aload_n 0, 1) := by decide +kernel
theorem dX9_place_1 : decode cX9_place 1 = .ok (.getfield 9, 3) := by decide +kernel
theorem dX9_place_4 : decode cX9_place 4 = .ok (.iload_n 1, 1) := by decide +kernel
theorem dX9_place_5 : decode cX9_place 5 = .ok (.iload_n 2, 1) := by decide +kernel
theorem dX9_place_6 : decode cX9_place 6 = .ok (.iastore, 1) := by decide +kernel
theorem dX9_place_7 : decode cX9_place 7 = .ok (.aload_n 0, 1) := by decide +kernel
theorem dX9_place_8 : decode cX9_place 8 = .ok (.getfield 15, 3) := by decide +kernel
theorem dX9_place_11 : decode cX9_place 11 = .ok (.iload_n 1, 1) := by decide +kernel
theorem dX9_place_12 : decode cX9_place 12 = .ok (.iload_n 3, 1) := by decide +kernel
theorem dX9_place_13 : decode cX9_place 13 = .ok (.iastore, 1) := by decide +kernel
theorem dX9_place_14 : decode cX9_place 14 = .ok (.return_, 1) := by decide +kernel
theorem dX9_wardAt_0 : decode cX9_wardAt 0 = .ok (.aload_n 0, 1) := by decide +kernel
theorem dX9_wardAt_1 : decode cX9_wardAt 1 = .ok (.getfield 9, 3) := by decide +kernel
theorem dX9_wardAt_4 : decode cX9_wardAt 4 = .ok (.iload_n 1, 1) := by decide +kernel
theorem dX9_wardAt_5 : decode cX9_wardAt 5 = .ok (.iaload, 1) := by decide +kernel
theorem dX9_wardAt_6 : decode cX9_wardAt 6 = .ok (.ireturn, 1) := by decide +kernel
theorem dX9_withinAt_0 : decode cX9_withinAt 0 = .ok (.aload_n 0, 1) := by decide +kernel
theorem dX9_withinAt_1 : decode cX9_withinAt 1 = .ok (.getfield 15, 3) := by decide +kernel
theorem dX9_withinAt_4 : decode cX9_withinAt 4 = .ok (.iload_n 1, 1) := by decide +kernel
theorem dX9_withinAt_5 : decode cX9_withinAt 5 = .ok (.iaload, 1) := by decide +kernel
theorem dX9_withinAt_6 : decode cX9_withinAt 6 = .ok (.ireturn, 1) := by decide +kernel
theorem dX9_minutesOfWay_0 : decode cX9_minutesOfWay 0 = .ok (.aload_n 0, 1) := by decide +kernel
theorem dX9_minutesOfWay_1 : decode cX9_minutesOfWay 1 = .ok (.getfield 18, 3) := by decide +kernel
theorem dX9_minutesOfWay_4 : decode cX9_minutesOfWay 4 = .ok (.iload_n 1, 1) := by decide +kernel
theorem dX9_minutesOfWay_5 : decode cX9_minutesOfWay 5 = .ok (.bipush 12, 2) := by decide +kernel
theorem dX9_minutesOfWay_7 : decode cX9_minutesOfWay 7 = .ok (.imul, 1) := by decide +kernel
theorem dX9_minutesOfWay_8 : decode cX9_minutesOfWay 8 = .ok (.iload_n 2, 1) := by decide +kernel
theorem dX9_minutesOfWay_9 : decode cX9_minutesOfWay 9 = .ok (.iadd, 1) := by decide +kernel
theorem dX9_minutesOfWay_10 : decode cX9_minutesOfWay 10 = .ok (.iaload, 1) := by decide +kernel
theorem dX9_minutesOfWay_11 : decode cX9_minutesOfWay 11 = .ok (.ireturn, 1) := by decide +kernel
theorem dX9_setWay_0 : decode cX9_setWay 0 = .ok (.aload_n 0, 1) := by decide +kernel
theorem dX9_setWay_1 : decode cX9_setWay 1 = .ok (.getfield 18, 3) := by decide +kernel
theorem dX9_setWay_4 : decode cX9_setWay 4 = .ok (.iload_n 1, 1) := by decide +kernel
theorem dX9_setWay_5 : decode cX9_setWay 5 = .ok (.bipush 12, 2) := by decide +kernel
theorem dX9_setWay_7 : decode cX9_setWay 7 = .ok (.imul, 1) := by decide +kernel
theorem dX9_setWay_8 : decode cX9_setWay 8 = .ok (.iload_n 2, 1) := by decide +kernel
theorem dX9_setWay_9 : decode cX9_setWay 9 = .ok (.iadd, 1) := by decide +kernel
theorem dX9_setWay_10 : decode cX9_setWay 10 = .ok (.iload_n 3, 1) := by decide +kernel
theorem dX9_setWay_11 : decode cX9_setWay 11 = .ok (.iastore, 1) := by decide +kernel
theorem dX9_setWay_12 : decode cX9_setWay 12 = .ok (.aload_n 0, 1) := by decide +kernel
theorem dX9_setWay_13 : decode cX9_setWay 13 = .ok (.getfield 18, 3) := by decide +kernel
theorem dX9_setWay_16 : decode cX9_setWay 16 = .ok (.iload_n 2, 1) := by decide +kernel
theorem dX9_setWay_17 : decode cX9_setWay 17 = .ok (.bipush 12, 2) := by decide +kernel
theorem dX9_setWay_19 : decode cX9_setWay 19 = .ok (.imul, 1) := by decide +kernel
theorem dX9_setWay_20 : decode cX9_setWay 20 = .ok (.iload_n 1, 1) := by decide +kernel
theorem dX9_setWay_21 : decode cX9_setWay 21 = .ok (.iadd, 1) := by decide +kernel
theorem dX9_setWay_22 : decode cX9_setWay 22 = .ok (.iload_n 3, 1) := by decide +kernel
theorem dX9_setWay_23 : decode cX9_setWay 23 = .ok (.iastore, 1) := by decide +kernel
theorem dX9_setWay_24 : decode cX9_setWay 24 = .ok (.aload_n 0, 1) := by decide +kernel
theorem dX9_setWay_25 : decode cX9_setWay 25 = .ok (.iconst 1, 1) := by decide +kernel
theorem dX9_setWay_26 : decode cX9_setWay 26 = .ok (.putfield 24, 3) := by decide +kernel
theorem dX9_setWay_29 : decode cX9_setWay 29 = .ok (.return_, 1) := by decide +kernel
theorem dX9_leastMinutes_0 : decode cX9_leastMinutes 0 = .ok (.aload_n 0, 1) := by decide +kernel
theorem dX9_leastMinutes_1 : decode cX9_leastMinutes 1 = .ok (.getfield 24, 3) := by decide +kernel
theorem dX9_leastMinutes_4 : decode cX9_leastMinutes 4 = .ok (.ifCond .eq 12, 3) := by decide +kernel
theorem dX9_leastMinutes_7 : decode cX9_leastMinutes 7 = .ok (.aload_n 0, 1) := by decide +kernel
theorem dX9_leastMinutes_8 : decode cX9_leastMinutes 8 = .ok (.invokevirtual 34, 3) := by decide +kernel
theorem dX9_leastMinutes_11 : decode cX9_leastMinutes 11 = .ok (.aload_n 0, 1) := by decide +kernel
theorem dX9_leastMinutes_12 : decode cX9_leastMinutes 12 = .ok (.iconst 0, 1) := by decide +kernel
theorem dX9_leastMinutes_13 : decode cX9_leastMinutes 13 = .ok (.putfield 24, 3) := by decide +kernel
theorem dX9_leastMinutes_16 : decode cX9_leastMinutes 16 = .ok (.aload_n 0, 1) := by decide +kernel
theorem dX9_leastMinutes_17 : decode cX9_leastMinutes 17 = .ok (.getfield 21, 3) := by decide +kernel
theorem dX9_leastMinutes_20 : decode cX9_leastMinutes 20 = .ok (.iload_n 1, 1) := by decide +kernel
theorem dX9_leastMinutes_21 : decode cX9_leastMinutes 21 = .ok (.bipush 12, 2) := by decide +kernel
theorem dX9_leastMinutes_23 : decode cX9_leastMinutes 23 = .ok (.imul, 1) := by decide +kernel
theorem dX9_leastMinutes_24 : decode cX9_leastMinutes 24 = .ok (.iload_n 2, 1) := by decide +kernel
theorem dX9_leastMinutes_25 : decode cX9_leastMinutes 25 = .ok (.iadd, 1) := by decide +kernel
theorem dX9_leastMinutes_26 : decode cX9_leastMinutes 26 = .ok (.iaload, 1) := by decide +kernel
theorem dX9_leastMinutes_27 : decode cX9_leastMinutes 27 = .ok (.ireturn, 1) := by decide +kernel
theorem dX9_measure_0 : decode cX9_measure 0 = .ok (.aload_n 0, 1) := by decide +kernel
theorem dX9_measure_1 : decode cX9_measure 1 = .ok (.getfield 18, 3) := by decide +kernel
theorem dX9_measure_4 : decode cX9_measure 4 = .ok (.iconst 0, 1) := by decide +kernel
theorem dX9_measure_5 : decode cX9_measure 5 = .ok (.aload_n 0, 1) := by decide +kernel
theorem dX9_measure_6 : decode cX9_measure 6 = .ok (.getfield 21, 3) := by decide +kernel
theorem dX9_measure_9 : decode cX9_measure 9 = .ok (.iconst 0, 1) := by decide +kernel
theorem dX9_measure_10 : decode cX9_measure 10 = .ok (.sipush 144, 3) := by decide +kernel
theorem dX9_measure_13 : decode cX9_measure 13 = .ok (.invokestatic 37, 3) := by decide +kernel
theorem dX9_measure_16 : decode cX9_measure 16 = .ok (.iconst 0, 1) := by decide +kernel
theorem dX9_measure_17 : decode cX9_measure 17 = .ok (.istore_n 1, 1) := by decide +kernel
theorem dX9_measure_18 : decode cX9_measure 18 = .ok (.iload_n 1, 1) := by decide +kernel
theorem dX9_measure_19 : decode cX9_measure 19 = .ok (.bipush 12, 2) := by decide +kernel
theorem dX9_measure_21 : decode cX9_measure 21 = .ok (.if_icmp .ge 21, 3) := by decide +kernel
theorem dX9_measure_24 : decode cX9_measure 24 = .ok (.aload_n 0, 1) := by decide +kernel
theorem dX9_measure_25 : decode cX9_measure 25 = .ok (.getfield 21, 3) := by decide +kernel
theorem dX9_measure_28 : decode cX9_measure 28 = .ok (.iload_n 1, 1) := by decide +kernel
theorem dX9_measure_29 : decode cX9_measure 29 = .ok (.bipush 12, 2) := by decide +kernel
theorem dX9_measure_31 : decode cX9_measure 31 = .ok (.imul, 1) := by decide +kernel
theorem dX9_measure_32 : decode cX9_measure 32 = .ok (.iload_n 1, 1) := by decide +kernel
theorem dX9_measure_33 : decode cX9_measure 33 = .ok (.iadd, 1) := by decide +kernel
theorem dX9_measure_34 : decode cX9_measure 34 = .ok (.iconst 0, 1) := by decide +kernel
theorem dX9_measure_35 : decode cX9_measure 35 = .ok (.iastore, 1) := by decide +kernel
theorem dX9_measure_36 : decode cX9_measure 36 = .ok (.iinc 1 1, 3) := by decide +kernel
theorem dX9_measure_39 : decode cX9_measure 39 = .ok (.goto (-21), 3) := by decide +kernel
theorem dX9_measure_42 : decode cX9_measure 42 = .ok (.iconst 0, 1) := by decide +kernel
theorem dX9_measure_43 : decode cX9_measure 43 = .ok (.istore_n 1, 1) := by decide +kernel
theorem dX9_measure_44 : decode cX9_measure 44 = .ok (.iload_n 1, 1) := by decide +kernel
theorem dX9_measure_45 : decode cX9_measure 45 = .ok (.bipush 12, 2) := by decide +kernel
theorem dX9_measure_47 : decode cX9_measure 47 = .ok (.if_icmp .ge 29, 3) := by decide +kernel
theorem dX9_measure_50 : decode cX9_measure 50 = .ok (.iconst 0, 1) := by decide +kernel
theorem dX9_measure_51 : decode cX9_measure 51 = .ok (.istore_n 2, 1) := by decide +kernel
theorem dX9_measure_52 : decode cX9_measure 52 = .ok (.iload_n 2, 1) := by decide +kernel
theorem dX9_measure_53 : decode cX9_measure 53 = .ok (.bipush 12, 2) := by decide +kernel
theorem dX9_measure_55 : decode cX9_measure 55 = .ok (.if_icmp .ge 15, 3) := by decide +kernel
theorem dX9_measure_58 : decode cX9_measure 58 = .ok (.aload_n 0, 1) := by decide +kernel
theorem dX9_measure_59 : decode cX9_measure 59 = .ok (.iload_n 2, 1) := by decide +kernel
theorem dX9_measure_60 : decode cX9_measure 60 = .ok (.iload_n 1, 1) := by decide +kernel
theorem dX9_measure_61 : decode cX9_measure 61 = .ok (.invokevirtual 43, 3) := by decide +kernel
theorem dX9_measure_64 : decode cX9_measure 64 = .ok (.iinc 2 1, 3) := by decide +kernel
theorem dX9_measure_67 : decode cX9_measure 67 = .ok (.goto (-15), 3) := by decide +kernel
theorem dX9_measure_70 : decode cX9_measure 70 = .ok (.iinc 1 1, 3) := by decide +kernel
theorem dX9_measure_73 : decode cX9_measure 73 = .ok (.goto (-29), 3) := by decide +kernel
theorem dX9_measure_76 : decode cX9_measure 76 = .ok (.return_, 1) := by decide +kernel
theorem dX9_shortenFrom_0 : decode cX9_shortenFrom 0 = .ok (.aload_n 0, 1) := by decide +kernel
theorem dX9_shortenFrom_1 : decode cX9_shortenFrom 1 = .ok (.getfield 21, 3) := by decide +kernel
theorem dX9_shortenFrom_4 : decode cX9_shortenFrom 4 = .ok (.iload_n 1, 1) := by decide +kernel
theorem dX9_shortenFrom_5 : decode cX9_shortenFrom 5 = .ok (.bipush 12, 2) := by decide +kernel
theorem dX9_shortenFrom_7 : decode cX9_shortenFrom 7 = .ok (.imul, 1) := by decide +kernel
theorem dX9_shortenFrom_8 : decode cX9_shortenFrom 8 = .ok (.iload_n 2, 1) := by decide +kernel
theorem dX9_shortenFrom_9 : decode cX9_shortenFrom 9 = .ok (.iadd, 1) := by decide +kernel
theorem dX9_shortenFrom_10 : decode cX9_shortenFrom 10 = .ok (.iaload, 1) := by decide +kernel
theorem dX9_shortenFrom_11 : decode cX9_shortenFrom 11 = .ok (.istore_n 3, 1) := by decide +kernel
theorem dX9_shortenFrom_12 : decode cX9_shortenFrom 12 = .ok (.iload_n 3, 1) := by decide +kernel
theorem dX9_shortenFrom_13 : decode cX9_shortenFrom 13 = .ok (.iconst (-1), 1) := by decide +kernel
theorem dX9_shortenFrom_14 : decode cX9_shortenFrom 14 = .ok (.if_icmp .ne 4, 3) := by decide +kernel
theorem dX9_shortenFrom_17 : decode cX9_shortenFrom 17 = .ok (.return_, 1) := by decide +kernel
theorem dX9_shortenFrom_18 : decode cX9_shortenFrom 18 = .ok (.iconst 0, 1) := by decide +kernel
theorem dX9_shortenFrom_19 : decode cX9_shortenFrom 19 = .ok (.istore 4, 2) := by decide +kernel
theorem dX9_shortenFrom_21 : decode cX9_shortenFrom 21 = .ok (.iload 4, 2) := by decide +kernel
theorem dX9_shortenFrom_23 : decode cX9_shortenFrom 23 = .ok (.bipush 12, 2) := by decide +kernel
theorem dX9_shortenFrom_25 : decode cX9_shortenFrom 25 = .ok (.if_icmp .ge 74, 3) := by decide +kernel
theorem dX9_shortenFrom_28 : decode cX9_shortenFrom 28 = .ok (.aload_n 0, 1) := by decide +kernel
theorem dX9_shortenFrom_29 : decode cX9_shortenFrom 29 = .ok (.getfield 21, 3) := by decide +kernel
theorem dX9_shortenFrom_32 : decode cX9_shortenFrom 32 = .ok (.iload_n 2, 1) := by decide +kernel
theorem dX9_shortenFrom_33 : decode cX9_shortenFrom 33 = .ok (.bipush 12, 2) := by decide +kernel
theorem dX9_shortenFrom_35 : decode cX9_shortenFrom 35 = .ok (.imul, 1) := by decide +kernel
theorem dX9_shortenFrom_36 : decode cX9_shortenFrom 36 = .ok (.iload 4, 2) := by decide +kernel
theorem dX9_shortenFrom_38 : decode cX9_shortenFrom 38 = .ok (.iadd, 1) := by decide +kernel
theorem dX9_shortenFrom_39 : decode cX9_shortenFrom 39 = .ok (.iaload, 1) := by decide +kernel
theorem dX9_shortenFrom_40 : decode cX9_shortenFrom 40 = .ok (.istore 5, 2) := by decide +kernel
theorem dX9_shortenFrom_42 : decode cX9_shortenFrom 42 = .ok (.aload_n 0, 1) := by decide +kernel
theorem dX9_shortenFrom_43 : decode cX9_shortenFrom 43 = .ok (.getfield 21, 3) := by decide +kernel
theorem dX9_shortenFrom_46 : decode cX9_shortenFrom 46 = .ok (.iload_n 1, 1) := by decide +kernel
theorem dX9_shortenFrom_47 : decode cX9_shortenFrom 47 = .ok (.bipush 12, 2) := by decide +kernel
theorem dX9_shortenFrom_49 : decode cX9_shortenFrom 49 = .ok (.imul, 1) := by decide +kernel
theorem dX9_shortenFrom_50 : decode cX9_shortenFrom 50 = .ok (.iload 4, 2) := by decide +kernel
theorem dX9_shortenFrom_52 : decode cX9_shortenFrom 52 = .ok (.iadd, 1) := by decide +kernel
theorem dX9_shortenFrom_53 : decode cX9_shortenFrom 53 = .ok (.iaload, 1) := by decide +kernel
theorem dX9_shortenFrom_54 : decode cX9_shortenFrom 54 = .ok (.istore 6, 2) := by decide +kernel
theorem dX9_shortenFrom_56 : decode cX9_shortenFrom 56 = .ok (.iload 5, 2) := by decide +kernel
theorem dX9_shortenFrom_58 : decode cX9_shortenFrom 58 = .ok (.iconst (-1), 1) := by decide +kernel
theorem dX9_shortenFrom_59 : decode cX9_shortenFrom 59 = .ok (.if_icmp .eq 34, 3) := by decide +kernel
theorem dX9_shortenFrom_62 : decode cX9_shortenFrom 62 = .ok (.iload 6, 2) := by decide +kernel
theorem dX9_shortenFrom_64 : decode cX9_shortenFrom 64 = .ok (.iconst (-1), 1) := by decide +kernel
theorem dX9_shortenFrom_65 : decode cX9_shortenFrom 65 = .ok (.if_icmp .eq 12, 3) := by decide +kernel
theorem dX9_shortenFrom_68 : decode cX9_shortenFrom 68 = .ok (.iload_n 3, 1) := by decide +kernel
theorem dX9_shortenFrom_69 : decode cX9_shortenFrom 69 = .ok (.iload 5, 2) := by decide +kernel
theorem dX9_shortenFrom_71 : decode cX9_shortenFrom 71 = .ok (.iadd, 1) := by decide +kernel
theorem dX9_shortenFrom_72 : decode cX9_shortenFrom 72 = .ok (.iload 6, 2) := by decide +kernel
theorem dX9_shortenFrom_74 : decode cX9_shortenFrom 74 = .ok (.if_icmp .ge 19, 3) := by decide +kernel
theorem dX9_shortenFrom_77 : decode cX9_shortenFrom 77 = .ok (.aload_n 0, 1) := by decide +kernel
theorem dX9_shortenFrom_78 : decode cX9_shortenFrom 78 = .ok (.getfield 21, 3) := by decide +kernel
theorem dX9_shortenFrom_81 : decode cX9_shortenFrom 81 = .ok (.iload_n 1, 1) := by decide +kernel
theorem dX9_shortenFrom_82 : decode cX9_shortenFrom 82 = .ok (.bipush 12, 2) := by decide +kernel
theorem dX9_shortenFrom_84 : decode cX9_shortenFrom 84 = .ok (.imul, 1) := by decide +kernel
theorem dX9_shortenFrom_85 : decode cX9_shortenFrom 85 = .ok (.iload 4, 2) := by decide +kernel
theorem dX9_shortenFrom_87 : decode cX9_shortenFrom 87 = .ok (.iadd, 1) := by decide +kernel
theorem dX9_shortenFrom_88 : decode cX9_shortenFrom 88 = .ok (.iload_n 3, 1) := by decide +kernel
theorem dX9_shortenFrom_89 : decode cX9_shortenFrom 89 = .ok (.iload 5, 2) := by decide +kernel
theorem dX9_shortenFrom_91 : decode cX9_shortenFrom 91 = .ok (.iadd, 1) := by decide +kernel
theorem dX9_shortenFrom_92 : decode cX9_shortenFrom 92 = .ok (.iastore, 1) := by decide +kernel
theorem dX9_shortenFrom_93 : decode cX9_shortenFrom 93 = .ok (.iinc 4 1, 3) := by decide +kernel
theorem dX9_shortenFrom_96 : decode cX9_shortenFrom 96 = .ok (.goto (-75), 3) := by decide +kernel
theorem dX9_shortenFrom_99 : decode cX9_shortenFrom 99 = .ok (.return_, 1) := by decide +kernel
theorem dX10_init_0 : decode cX10_init 0 = .ok (.aload_n 0, 1) := by decide +kernel
theorem dX10_init_1 : decode cX10_init 1 = .ok (.invokespecial 3, 3) := by decide +kernel
theorem dX10_init_4 : decode cX10_init 4 = .ok (.aload_n 0, 1) := by decide +kernel
theorem dX10_init_5 : decode cX10_init 5 = .ok (.new 9, 3) := by decide +kernel
theorem dX10_init_8 : decode cX10_init 8 = .ok (.dup, 1) := by decide +kernel
theorem dX10_init_9 : decode cX10_init 9 = .ok (.invokespecial 11, 3) := by decide +kernel
theorem dX10_init_12 : decode cX10_init 12 = .ok (.putfield 12, 3) := by decide +kernel
theorem dX10_init_15 : decode cX10_init 15 = .ok (.aload_n 0, 1) := by decide +kernel
theorem dX10_init_16 : decode cX10_init 16 = .ok (.iconst (-1), 1) := by decide +kernel
theorem dX10_init_17 : decode cX10_init 17 = .ok (.putfield 18, 3) := by decide +kernel
theorem dX10_init_20 : decode cX10_init 20 = .ok (.aload_n 0, 1) := by decide +kernel
theorem dX10_init_21 : decode cX10_init 21 = .ok (.iconst (-1), 1) := by decide +kernel
theorem dX10_init_22 : decode cX10_init 22 = .ok (.putfield 22, 3) := by decide +kernel
theorem dX10_init_25 : decode cX10_init 25 = .ok (.aload_n 0, 1) := by decide +kernel
theorem dX10_init_26 : decode cX10_init 26 = .ok (.iconst (-1), 1) := by decide +kernel
theorem dX10_init_27 : decode cX10_init 27 = .ok (.putfield 25, 3) := by decide +kernel
theorem dX10_init_30 : decode cX10_init 30 = .ok (.aload_n 0, 1) := by decide +kernel
theorem dX10_init_31 : decode cX10_init 31 = .ok (.sipush 200, 3) := by decide +kernel
theorem dX10_init_34 : decode cX10_init 34 = .ok (.newarray .int, 2) := by decide +kernel
theorem dX10_init_36 : decode cX10_init 36 = .ok (.putfield 28, 3) := by decide +kernel
theorem dX10_init_39 : decode cX10_init 39 = .ok (.aload_n 0, 1) := by decide +kernel
theorem dX10_init_40 : decode cX10_init 40 = .ok (.sipush 200, 3) := by decide +kernel
theorem dX10_init_43 : decode cX10_init 43 = .ok (.newarray .boolean, 2) := by decide +kernel
theorem dX10_init_45 : decode cX10_init 45 = .ok (.putfield 32, 3) := by decide +kernel
theorem dX10_init_48 : decode cX10_init 48 = .ok (.aload_n 0, 1) := by decide +kernel
theorem dX10_init_49 : decode cX10_init 49 = .ok (.sipush 200, 3) := by decide +kernel
theorem dX10_init_52 : decode cX10_init 52 = .ok (.newarray .int, 2) := by decide +kernel
theorem dX10_init_54 : decode cX10_init 54 = .ok (.putfield 36, 3) := by decide +kernel
theorem dX10_init_57 : decode cX10_init 57 = .ok (.return_, 1) := by decide +kernel
theorem dX10_hasPlace_0 : decode cX10_hasPlace 0 = .ok (.aload_n 0, 1) := by decide +kernel
theorem dX10_hasPlace_1 : decode cX10_hasPlace 1 = .ok (.getfield 39, 3) := by decide +kernel
theorem dX10_hasPlace_4 : decode cX10_hasPlace 4 = .ok (.aload_n 0, 1) := by decide +kernel
theorem dX10_hasPlace_5 : decode cX10_hasPlace 5 = .ok (.getfield 12, 3) := by decide +kernel
theorem dX10_hasPlace_8 : decode cX10_hasPlace 8 = .ok (.getfield 42, 3) := by decide +kernel
theorem dX10_hasPlace_11 : decode cX10_hasPlace 11 = .ok (.if_icmp .ge 7, 3) := by decide +kernel
theorem dX10_hasPlace_14 : decode cX10_hasPlace 14 = .ok (.iconst 1, 1) := by decide +kernel
theorem dX10_hasPlace_15 : decode cX10_hasPlace 15 = .ok (.goto 4, 3) := by decide +kernel
theorem dX10_hasPlace_18 : decode cX10_hasPlace 18 = .ok (.iconst 0, 1) := by decide +kernel
theorem dX10_hasPlace_19 : decode cX10_hasPlace 19 = .ok (.ireturn, 1) := by decide +kernel
theorem dX10_nextYear_0 : decode cX10_nextYear 0 = .ok (.aload_n 0, 1) := by decide +kernel
theorem dX10_nextYear_1 : decode cX10_nextYear 1 = .ok (.getfield 25, 3) := by decide +kernel
theorem dX10_nextYear_4 : decode cX10_nextYear 4 = .ok (.iconst (-1), 1) := by decide +kernel
theorem dX10_nextYear_5 : decode cX10_nextYear 5 = .ok (.if_icmp .ne 22, 3) := by decide +kernel
theorem dX10_nextYear_8 : decode cX10_nextYear 8 = .ok (.iload_n 1, 1) := by decide +kernel
theorem dX10_nextYear_9 : decode cX10_nextYear 9 = .ok (.sipush 1600, 3) := by decide +kernel
theorem dX10_nextYear_12 : decode cX10_nextYear 12 = .ok (.sipush 1799, 3) := by decide +kernel
theorem dX10_nextYear_15 : decode cX10_nextYear 15 = .ok (.invokestatic 45, 3) := by decide +kernel
theorem dX10_nextYear_18 : decode cX10_nextYear 18 = .ok (.ifCond .eq 7, 3) := by decide +kernel
theorem dX10_nextYear_21 : decode cX10_nextYear 21 = .ok (.iload_n 1, 1) := by decide +kernel
theorem dX10_nextYear_22 : decode cX10_nextYear 22 = .ok (.goto 4, 3) := by decide +kernel
theorem dX10_nextYear_25 : decode cX10_nextYear 25 = .ok (.iconst (-1), 1) := by decide +kernel
theorem dX10_nextYear_26 : decode cX10_nextYear 26 = .ok (.ireturn, 1) := by decide +kernel
theorem dX10_nextYear_27 : decode cX10_nextYear 27 = .ok (.aload_n 0, 1) := by decide +kernel
theorem dX10_nextYear_28 : decode cX10_nextYear 28 = .ok (.getfield 25, 3) := by decide +kernel
theorem dX10_nextYear_31 : decode cX10_nextYear 31 = .ok (.iconst 1, 1) := by decide +kernel
theorem dX10_nextYear_32 : decode cX10_nextYear 32 = .ok (.iadd, 1) := by decide +kernel
theorem dX10_nextYear_33 : decode cX10_nextYear 33 = .ok (.istore_n 2, 1) := by decide +kernel
theorem dX10_nextYear_34 : decode cX10_nextYear 34 = .ok (.iload_n 2, 1) := by decide +kernel
theorem dX10_nextYear_35 : decode cX10_nextYear 35 = .ok (.sipush 1799, 3) := by decide +kernel
theorem dX10_nextYear_38 : decode cX10_nextYear 38 = .ok (.if_icmp .gt 17, 3) := by decide +kernel
theorem dX10_nextYear_41 : decode cX10_nextYear 41 = .ok (.iload_n 1, 1) := by decide +kernel
theorem dX10_nextYear_42 : decode cX10_nextYear 42 = .ok (.iconst (-1), 1) := by decide +kernel
theorem dX10_nextYear_43 : decode cX10_nextYear 43 = .ok (.if_icmp .eq 8, 3) := by decide +kernel
theorem dX10_nextYear_46 : decode cX10_nextYear 46 = .ok (.iload_n 1, 1) := by decide +kernel
theorem dX10_nextYear_47 : decode cX10_nextYear 47 = .ok (.iload_n 2, 1) := by decide +kernel
theorem dX10_nextYear_48 : decode cX10_nextYear 48 = .ok (.if_icmp .ne 7, 3) := by decide +kernel
theorem dX10_nextYear_51 : decode cX10_nextYear 51 = .ok (.iload_n 2, 1) := by decide +kernel
theorem dX10_nextYear_52 : decode cX10_nextYear 52 = .ok (.goto 4, 3) := by decide +kernel
theorem dX10_nextYear_55 : decode cX10_nextYear 55 = .ok (.iconst (-1), 1) := by decide +kernel
theorem dX10_nextYear_56 : decode cX10_nextYear 56 = .ok (.ireturn, 1) := by decide +kernel
theorem dX10_openYear_0 : decode cX10_openYear 0 = .ok (.aload_n 0, 1) := by decide +kernel
theorem dX10_openYear_1 : decode cX10_openYear 1 = .ok (.getfield 25, 3) := by decide +kernel
theorem dX10_openYear_4 : decode cX10_openYear 4 = .ok (.iconst (-1), 1) := by decide +kernel
theorem dX10_openYear_5 : decode cX10_openYear 5 = .ok (.if_icmp .ne 8, 3) := by decide +kernel
theorem dX10_openYear_8 : decode cX10_openYear 8 = .ok (.aload_n 0, 1) := by decide +kernel
theorem dX10_openYear_9 : decode cX10_openYear 9 = .ok (.iload_n 1, 1) := by decide +kernel
theorem dX10_openYear_10 : decode cX10_openYear 10 = .ok (.putfield 22, 3) := by decide +kernel
theorem dX10_openYear_13 : decode cX10_openYear 13 = .ok (.aload_n 0, 1) := by decide +kernel
theorem dX10_openYear_14 : decode cX10_openYear 14 = .ok (.iload_n 1, 1) := by decide +kernel
theorem dX10_openYear_15 : decode cX10_openYear 15 = .ok (.putfield 25, 3) := by decide +kernel
theorem dX10_openYear_18 : decode cX10_openYear 18 = .ok (.aload_n 0, 1) := by decide +kernel
theorem dX10_openYear_19 : decode cX10_openYear 19 = .ok (.getfield 28, 3) := by decide +kernel
theorem dX10_openYear_22 : decode cX10_openYear 22 = .ok (.iload_n 1, 1) := by decide +kernel
theorem dX10_openYear_23 : decode cX10_openYear 23 = .ok (.sipush 1600, 3) := by decide +kernel
theorem dX10_openYear_26 : decode cX10_openYear 26 = .ok (.isub, 1) := by decide +kernel
theorem dX10_openYear_27 : decode cX10_openYear 27 = .ok (.iconst (-1), 1) := by decide +kernel
theorem dX10_openYear_28 : decode cX10_openYear 28 = .ok (.iastore, 1) := by decide +kernel
theorem dX10_openYear_29 : decode cX10_openYear 29 = .ok (.return_, 1) := by decide +kernel
theorem dX10_takeFine_0 : decode cX10_takeFine 0 = .ok (.aload_n 0, 1) := by decide +kernel
theorem dX10_takeFine_1 : decode cX10_takeFine 1 = .ok (.dup, 1) := by decide +kernel
theorem dX10_takeFine_2 : decode cX10_takeFine 2 = .ok (.getfield 49, 3) := by decide +kernel
theorem dX10_takeFine_5 : decode cX10_takeFine 5 = .ok (.aload_n 0, 1) := by decide +kernel
theorem dX10_takeFine_6 : decode cX10_takeFine 6 = .ok (.getfield 12, 3) := by decide +kernel
theorem dX10_takeFine_9 : decode cX10_takeFine 9 = .ok (.getfield 52, 3) := by decide +kernel
theorem dX10_takeFine_12 : decode cX10_takeFine 12 = .ok (.iadd, 1) := by decide +kernel
theorem dX10_takeFine_13 : decode cX10_takeFine 13 = .ok (.putfield 49, 3) := by decide +kernel
theorem dX10_takeFine_16 : decode cX10_takeFine 16 = .ok (.aload_n 0, 1) := by decide +kernel
theorem dX10_takeFine_17 : decode cX10_takeFine 17 = .ok (.getfield 36, 3) := by decide +kernel
theorem dX10_takeFine_20 : decode cX10_takeFine 20 = .ok (.iload_n 1, 1) := by decide +kernel
theorem dX10_takeFine_21 : decode cX10_takeFine 21 = .ok (.sipush 1600, 3) := by decide +kernel
theorem dX10_takeFine_24 : decode cX10_takeFine 24 = .ok (.isub, 1) := by decide +kernel
theorem dX10_takeFine_25 : decode cX10_takeFine 25 = .ok (.dup2, 1) := by decide +kernel
theorem dX10_takeFine_26 : decode cX10_takeFine 26 = .ok (.iaload, 1) := by decide +kernel
theorem dX10_takeFine_27 : decode cX10_takeFine 27 = .ok (.iconst 1, 1) := by decide +kernel
theorem dX10_takeFine_28 : decode cX10_takeFine 28 = .ok (.iadd, 1) := by decide +kernel
theorem dX10_takeFine_29 : decode cX10_takeFine 29 = .ok (.iastore, 1) := by decide +kernel
theorem dX10_takeFine_30 : decode cX10_takeFine 30 = .ok (.return_, 1) := by decide +kernel
theorem dX10_appoint_0 : decode cX10_appoint 0 = .ok (.aload_n 0, 1) := by decide +kernel
theorem dX10_appoint_1 : decode cX10_appoint 1 = .ok (.getfield 28, 3) := by decide +kernel
theorem dX10_appoint_4 : decode cX10_appoint 4 = .ok (.iload_n 1, 1) := by decide +kernel
theorem dX10_appoint_5 : decode cX10_appoint 5 = .ok (.sipush 1600, 3) := by decide +kernel
theorem dX10_appoint_8 : decode cX10_appoint 8 = .ok (.isub, 1) := by decide +kernel
theorem dX10_appoint_9 : decode cX10_appoint 9 = .ok (.iload_n 2, 1) := by decide +kernel
theorem dX10_appoint_10 : decode cX10_appoint 10 = .ok (.iastore, 1) := by decide +kernel
theorem dX10_appoint_11 : decode cX10_appoint 11 = .ok (.aload_n 0, 1) := by decide +kernel
theorem dX10_appoint_12 : decode cX10_appoint 12 = .ok (.getfield 32, 3) := by decide +kernel
theorem dX10_appoint_15 : decode cX10_appoint 15 = .ok (.iload_n 1, 1) := by decide +kernel
theorem dX10_appoint_16 : decode cX10_appoint 16 = .ok (.sipush 1600, 3) := by decide +kernel
theorem dX10_appoint_19 : decode cX10_appoint 19 = .ok (.isub, 1) := by decide +kernel
theorem dX10_appoint_20 : decode cX10_appoint 20 = .ok (.iload_n 3, 1) := by decide +kernel
theorem dX10_appoint_21 : decode cX10_appoint 21 = .ok (.bastore, 1) := by decide +kernel
theorem dX10_appoint_22 : decode cX10_appoint 22 = .ok (.return_, 1) := by decide +kernel
theorem dX10_tellYear_0 : decode cX10_tellYear 0 = .ok (.aload_n 0, 1) := by decide +kernel
theorem dX10_tellYear_1 : decode cX10_tellYear 1 = .ok (.getfield 25, 3) := by decide +kernel
theorem dX10_tellYear_4 : decode cX10_tellYear 4 = .ok (.iconst (-1), 1) := by decide +kernel
theorem dX10_tellYear_5 : decode cX10_tellYear 5 = .ok (.if_icmp .eq 18, 3) := by decide +kernel
theorem dX10_tellYear_8 : decode cX10_tellYear 8 = .ok (.iload_n 1, 1) := by decide +kernel
theorem dX10_tellYear_9 : decode cX10_tellYear 9 = .ok (.aload_n 0, 1) := by decide +kernel
theorem dX10_tellYear_10 : decode cX10_tellYear 10 = .ok (.getfield 22, 3) := by decide +kernel
theorem dX10_tellYear_13 : decode cX10_tellYear 13 = .ok (.aload_n 0, 1) := by decide +kernel
theorem dX10_tellYear_14 : decode cX10_tellYear 14 = .ok (.getfield 25, 3) := by decide +kernel
theorem dX10_tellYear_17 : decode cX10_tellYear 17 = .ok (.invokestatic 45, 3) := by decide +kernel
theorem dX10_tellYear_20 : decode cX10_tellYear 20 = .ok (.ifCond .ne 6, 3) := by decide +kernel
theorem dX10_tellYear_23 : decode cX10_tellYear 23 = .ok (.bipush (-9), 2) := by decide +kernel
theorem dX10_tellYear_25 : decode cX10_tellYear 25 = .ok (.ireturn, 1) := by decide +kernel
theorem dX10_tellYear_26 : decode cX10_tellYear 26 = .ok (.iload_n 2, 1) := by decide +kernel
theorem dX10_tellYear_27 : decode cX10_tellYear 27 = .ok (.tableswitch 66 0 2 #[25, 36, 55], 25) := by decide +kernel
theorem dX10_tellYear_52 : decode cX10_tellYear 52 = .ok (.aload_n 0, 1) := by decide +kernel
theorem dX10_tellYear_53 : decode cX10_tellYear 53 = .ok (.getfield 28, 3) := by decide +kernel
theorem dX10_tellYear_56 : decode cX10_tellYear 56 = .ok (.iload_n 1, 1) := by decide +kernel
theorem dX10_tellYear_57 : decode cX10_tellYear 57 = .ok (.sipush 1600, 3) := by decide +kernel
theorem dX10_tellYear_60 : decode cX10_tellYear 60 = .ok (.isub, 1) := by decide +kernel
theorem dX10_tellYear_61 : decode cX10_tellYear 61 = .ok (.iaload, 1) := by decide +kernel
theorem dX10_tellYear_62 : decode cX10_tellYear 62 = .ok (.ireturn, 1) := by decide +kernel
theorem dX10_tellYear_63 : decode cX10_tellYear 63 = .ok (.aload_n 0, 1) := by decide +kernel
theorem dX10_tellYear_64 : decode cX10_tellYear 64 = .ok (.getfield 32, 3) := by decide +kernel
theorem dX10_tellYear_67 : decode cX10_tellYear 67 = .ok (.iload_n 1, 1) := by decide +kernel
theorem dX10_tellYear_68 : decode cX10_tellYear 68 = .ok (.sipush 1600, 3) := by decide +kernel
theorem dX10_tellYear_71 : decode cX10_tellYear 71 = .ok (.isub, 1) := by decide +kernel
theorem dX10_tellYear_72 : decode cX10_tellYear 72 = .ok (.baload, 1) := by decide +kernel
theorem dX10_tellYear_73 : decode cX10_tellYear 73 = .ok (.ifCond .eq 7, 3) := by decide +kernel
theorem dX10_tellYear_76 : decode cX10_tellYear 76 = .ok (.iconst 1, 1) := by decide +kernel
theorem dX10_tellYear_77 : decode cX10_tellYear 77 = .ok (.goto 4, 3) := by decide +kernel
theorem dX10_tellYear_80 : decode cX10_tellYear 80 = .ok (.iconst 0, 1) := by decide +kernel
theorem dX10_tellYear_81 : decode cX10_tellYear 81 = .ok (.ireturn, 1) := by decide +kernel
theorem dX10_tellYear_82 : decode cX10_tellYear 82 = .ok (.aload_n 0, 1) := by decide +kernel
theorem dX10_tellYear_83 : decode cX10_tellYear 83 = .ok (.getfield 36, 3) := by decide +kernel
theorem dX10_tellYear_86 : decode cX10_tellYear 86 = .ok (.iload_n 1, 1) := by decide +kernel
theorem dX10_tellYear_87 : decode cX10_tellYear 87 = .ok (.sipush 1600, 3) := by decide +kernel
theorem dX10_tellYear_90 : decode cX10_tellYear 90 = .ok (.isub, 1) := by decide +kernel
theorem dX10_tellYear_91 : decode cX10_tellYear 91 = .ok (.iaload, 1) := by decide +kernel
theorem dX10_tellYear_92 : decode cX10_tellYear 92 = .ok (.ireturn, 1) := by decide +kernel
theorem dX10_tellYear_93 : decode cX10_tellYear 93 = .ok (.bipush (-9), 2) := by decide +kernel
theorem dX10_tellYear_95 : decode cX10_tellYear 95 = .ok (.ireturn, 1) := by decide +kernel
theorem dX11_init_0 : decode cX11_init 0 = .ok (.aload_n 0, 1) := by decide +kernel
theorem dX11_init_1 : decode cX11_init 1 = .ok (.invokespecial 1, 3) := by decide +kernel
theorem dX11_init_4 : decode cX11_init 4 = .ok (.aload_n 0, 1) := by decide +kernel
theorem dX11_init_5 : decode cX11_init 5 = .ok (.new 7, 3) := by decide +kernel
theorem dX11_init_8 : decode cX11_init 8 = .ok (.dup, 1) := by decide +kernel
theorem dX11_init_9 : decode cX11_init 9 = .ok (.invokespecial 9, 3) := by decide +kernel
theorem dX11_init_12 : decode cX11_init 12 = .ok (.putfield 10, 3) := by decide +kernel
theorem dX11_init_15 : decode cX11_init 15 = .ok (.aload_n 0, 1) := by decide +kernel
theorem dX11_init_16 : decode cX11_init 16 = .ok (.new 16, 3) := by decide +kernel
theorem dX11_init_19 : decode cX11_init 19 = .ok (.dup, 1) := by decide +kernel
theorem dX11_init_20 : decode cX11_init 20 = .ok (.invokespecial 18, 3) := by decide +kernel
theorem dX11_init_23 : decode cX11_init 23 = .ok (.putfield 19, 3) := by decide +kernel
theorem dX11_init_26 : decode cX11_init 26 = .ok (.aload_n 0, 1) := by decide +kernel
theorem dX11_init_27 : decode cX11_init 27 = .ok (.new 23, 3) := by decide +kernel
theorem dX11_init_30 : decode cX11_init 30 = .ok (.dup, 1) := by decide +kernel
theorem dX11_init_31 : decode cX11_init 31 = .ok (.invokespecial 25, 3) := by decide +kernel
theorem dX11_init_34 : decode cX11_init 34 = .ok (.putfield 26, 3) := by decide +kernel
theorem dX11_init_37 : decode cX11_init 37 = .ok (.aload_n 0, 1) := by decide +kernel
theorem dX11_init_38 : decode cX11_init 38 = .ok (.new 30, 3) := by decide +kernel
theorem dX11_init_41 : decode cX11_init 41 = .ok (.dup, 1) := by decide +kernel
theorem dX11_init_42 : decode cX11_init 42 = .ok (.aload_n 0, 1) := by decide +kernel
theorem dX11_init_43 : decode cX11_init 43 = .ok (.getfield 10, 3) := by decide +kernel
theorem dX11_init_46 : decode cX11_init 46 = .ok (.invokespecial 32, 3) := by decide +kernel
theorem dX11_init_49 : decode cX11_init 49 = .ok (.putfield 35, 3) := by decide +kernel
theorem dX11_init_52 : decode cX11_init 52 = .ok (.aload_n 0, 1) := by decide +kernel
theorem dX11_init_53 : decode cX11_init 53 = .ok (.iconst 4, 1) := by decide +kernel
theorem dX11_init_54 : decode cX11_init 54 = .ok (.anewarray 39, 3) := by decide +kernel
theorem dX11_init_57 : decode cX11_init 57 = .ok (.putfield 41, 3) := by decide +kernel
theorem dX11_init_60 : decode cX11_init 60 = .ok (.aload_n 0, 1) := by decide +kernel
theorem dX11_init_61 : decode cX11_init 61 = .ok (.new 45, 3) := by decide +kernel
theorem dX11_init_64 : decode cX11_init 64 = .ok (.dup, 1) := by decide +kernel
theorem dX11_init_65 : decode cX11_init 65 = .ok (.invokespecial 47, 3) := by decide +kernel
theorem dX11_init_68 : decode cX11_init 68 = .ok (.putfield 48, 3) := by decide +kernel
theorem dX11_init_71 : decode cX11_init 71 = .ok (.aload_n 0, 1) := by decide +kernel
theorem dX11_init_72 : decode cX11_init 72 = .ok (.new 52, 3) := by decide +kernel
theorem dX11_init_75 : decode cX11_init 75 = .ok (.dup, 1) := by decide +kernel
theorem dX11_init_76 : decode cX11_init 76 = .ok (.invokespecial 54, 3) := by decide +kernel
theorem dX11_init_79 : decode cX11_init 79 = .ok (.putfield 55, 3) := by decide +kernel
theorem dX11_init_82 : decode cX11_init 82 = .ok (.aload_n 0, 1) := by decide +kernel
theorem dX11_init_83 : decode cX11_init 83 = .ok (.new 59, 3) := by decide +kernel
theorem dX11_init_86 : decode cX11_init 86 = .ok (.dup, 1) := by decide +kernel
theorem dX11_init_87 : decode cX11_init 87 = .ok (.invokespecial 61, 3) := by decide +kernel
theorem dX11_init_90 : decode cX11_init 90 = .ok (.putfield 62, 3) := by decide +kernel
theorem dX11_init_93 : decode cX11_init 93 = .ok (.aload_n 0, 1) := by decide +kernel
theorem dX11_init_94 : decode cX11_init 94 = .ok (.new 66, 3) := by decide +kernel
theorem dX11_init_97 : decode cX11_init 97 = .ok (.dup, 1) := by decide +kernel
theorem dX11_init_98 : decode cX11_init 98 = .ok (.invokespecial 68, 3) := by decide +kernel
theorem dX11_init_101 : decode cX11_init 101 = .ok (.putfield 69, 3) := by decide +kernel
theorem dX11_init_104 : decode cX11_init 104 = .ok (.iconst 0, 1) := by decide +kernel
theorem dX11_init_105 : decode cX11_init 105 = .ok (.istore_n 1, 1) := by decide +kernel
theorem dX11_init_106 : decode cX11_init 106 = .ok (.iload_n 1, 1) := by decide +kernel
theorem dX11_init_107 : decode cX11_init 107 = .ok (.iconst 4, 1) := by decide +kernel
theorem dX11_init_108 : decode cX11_init 108 = .ok (.if_icmp .ge 22, 3) := by decide +kernel
theorem dX11_init_111 : decode cX11_init 111 = .ok (.aload_n 0, 1) := by decide +kernel
theorem dX11_init_112 : decode cX11_init 112 = .ok (.getfield 41, 3) := by decide +kernel
theorem dX11_init_115 : decode cX11_init 115 = .ok (.iload_n 1, 1) := by decide +kernel
theorem dX11_init_116 : decode cX11_init 116 = .ok (.new 39, 3) := by decide +kernel
theorem dX11_init_119 : decode cX11_init 119 = .ok (.dup, 1) := by decide +kernel
theorem dX11_init_120 : decode cX11_init 120 = .ok (.invokespecial 73, 3) := by decide +kernel
theorem dX11_init_123 : decode cX11_init 123 = .ok (.aastore, 1) := by decide +kernel
theorem dX11_init_124 : decode cX11_init 124 = .ok (.iinc 1 1, 3) := by decide +kernel
theorem dX11_init_127 : decode cX11_init 127 = .ok (.goto (-21), 3) := by decide +kernel
theorem dX11_init_130 : decode cX11_init 130 = .ok (.return_, 1) := by decide +kernel
theorem dX11_feed_0 : decode cX11_feed 0 = .ok (.aload_n 0, 1) := by decide +kernel
theorem dX11_feed_1 : decode cX11_feed 1 = .ok (.getfield 10, 3) := by decide +kernel
theorem dX11_feed_4 : decode cX11_feed 4 = .ok (.bipush 20, 2) := by decide +kernel
theorem dX11_feed_6 : decode cX11_feed 6 = .ok (.invokevirtual 74, 3) := by decide +kernel
theorem dX11_feed_9 : decode cX11_feed 9 = .ok (.ifCond .ne 6, 3) := by decide +kernel
theorem dX11_feed_12 : decode cX11_feed 12 = .ok (.bipush (-3), 2) := by decide +kernel
theorem dX11_feed_14 : decode cX11_feed 14 = .ok (.ireturn, 1) := by decide +kernel
theorem dX11_feed_15 : decode cX11_feed 15 = .ok (.aload_n 0, 1) := by decide +kernel
theorem dX11_feed_16 : decode cX11_feed 16 = .ok (.getfield 10, 3) := by decide +kernel
theorem dX11_feed_19 : decode cX11_feed 19 = .ok (.iload_n 1, 1) := by decide +kernel
theorem dX11_feed_20 : decode cX11_feed 20 = .ok (.invokevirtual 78, 3) := by decide +kernel
theorem dX11_feed_23 : decode cX11_feed 23 = .ok (.aload_n 0, 1) := by decide +kernel
theorem dX11_feed_24 : decode cX11_feed 24 = .ok (.getfield 10, 3) := by decide +kernel
theorem dX11_feed_27 : decode cX11_feed 27 = .ok (.iload_n 2, 1) := by decide +kernel
theorem dX11_feed_28 : decode cX11_feed 28 = .ok (.invokevirtual 78, 3) := by decide +kernel
theorem dX11_feed_31 : decode cX11_feed 31 = .ok (.aload_n 0, 1) := by decide +kernel
theorem dX11_feed_32 : decode cX11_feed 32 = .ok (.getfield 10, 3) := by decide +kernel
theorem dX11_feed_35 : decode cX11_feed 35 = .ok (.iload_n 3, 1) := by decide +kernel
theorem dX11_feed_36 : decode cX11_feed 36 = .ok (.invokevirtual 78, 3) := by decide +kernel
theorem dX11_feed_39 : decode cX11_feed 39 = .ok (.aload_n 0, 1) := by decide +kernel
theorem dX11_feed_40 : decode cX11_feed 40 = .ok (.getfield 10, 3) := by decide +kernel
theorem dX11_feed_43 : decode cX11_feed 43 = .ok (.iload 4, 2) := by decide +kernel
theorem dX11_feed_45 : decode cX11_feed 45 = .ok (.invokevirtual 78, 3) := by decide +kernel
theorem dX11_feed_48 : decode cX11_feed 48 = .ok (.aload_n 0, 1) := by decide +kernel
theorem dX11_feed_49 : decode cX11_feed 49 = .ok (.getfield 10, 3) := by decide +kernel
theorem dX11_feed_52 : decode cX11_feed 52 = .ok (.iload 5, 2) := by decide +kernel
theorem dX11_feed_54 : decode cX11_feed 54 = .ok (.invokevirtual 78, 3) := by decide +kernel
theorem dX11_feed_57 : decode cX11_feed 57 = .ok (.aload_n 0, 1) := by decide +kernel
theorem dX11_feed_58 : decode cX11_feed 58 = .ok (.getfield 10, 3) := by decide +kernel
theorem dX11_feed_61 : decode cX11_feed 61 = .ok (.invokevirtual 82, 3) := by decide +kernel
theorem dX11_feed_64 : decode cX11_feed 64 = .ok (.ireturn, 1) := by decide +kernel
theorem dX11_end_0 : decode cX11_end 0 = .ok (.iload_n 1, 1) := by decide +kernel
theorem dX11_end_1 : decode cX11_end 1 = .ok (.ifCond .lt 14, 3) := by decide +kernel
theorem dX11_end_4 : decode cX11_end 4 = .ok (.iload_n 1, 1) := by decide +kernel
theorem dX11_end_5 : decode cX11_end 5 = .ok (.aload_n 0, 1) := by decide +kernel
theorem dX11_end_6 : decode cX11_end 6 = .ok (.getfield 10, 3) := by decide +kernel
theorem dX11_end_9 : decode cX11_end 9 = .ok (.invokevirtual 82, 3) := by decide +kernel
theorem dX11_end_12 : decode cX11_end 12 = .ok (.if_icmp .le 5, 3) := by decide +kernel
theorem dX11_end_15 : decode cX11_end 15 = .ok (.iconst (-1), 1) := by decide +kernel
theorem dX11_end_16 : decode cX11_end 16 = .ok (.ireturn, 1) := by decide +kernel
theorem dX11_end_17 : decode cX11_end 17 = .ok (.aload_n 0, 1) := by decide +kernel
theorem dX11_end_18 : decode cX11_end 18 = .ok (.getfield 10, 3) := by decide +kernel
theorem dX11_end_21 : decode cX11_end 21 = .ok (.iload_n 1, 1) := by decide +kernel
theorem dX11_end_22 : decode cX11_end 22 = .ok (.invokevirtual 86, 3) := by decide +kernel
theorem dX11_end_25 : decode cX11_end 25 = .ok (.iload_n 1, 1) := by decide +kernel
theorem dX11_end_26 : decode cX11_end 26 = .ok (.ireturn, 1) := by decide +kernel
theorem dX11_court_0 : decode cX11_court 0 = .ok (.iload_n 1, 1) := by decide +kernel
theorem dX11_court_1 : decode cX11_court 1 = .ok (.invokestatic 89, 3) := by decide +kernel
theorem dX11_court_4 : decode cX11_court 4 = .ok (.ifCond .eq 21, 3) := by decide +kernel
theorem dX11_court_7 : decode cX11_court 7 = .ok (.iload_n 2, 1) := by decide +kernel
theorem dX11_court_8 : decode cX11_court 8 = .ok (.invokestatic 92, 3) := by decide +kernel
theorem dX11_court_11 : decode cX11_court 11 = .ok (.ifCond .eq 14, 3) := by decide +kernel
theorem dX11_court_14 : decode cX11_court 14 = .ok (.iload_n 3, 1) := by decide +kernel
theorem dX11_court_15 : decode cX11_court 15 = .ok (.iconst 1, 1) := by decide +kernel
theorem dX11_court_16 : decode cX11_court 16 = .ok (.sipush 999, 3) := by decide +kernel
theorem dX11_court_19 : decode cX11_court 19 = .ok (.invokestatic 95, 3) := by decide +kernel
theorem dX11_court_22 : decode cX11_court 22 = .ok (.ifCond .ne 6, 3) := by decide +kernel
theorem dX11_court_25 : decode cX11_court 25 = .ok (.bipush (-2), 2) := by decide +kernel
theorem dX11_court_27 : decode cX11_court 27 = .ok (.ireturn, 1) := by decide +kernel
theorem dX11_court_28 : decode cX11_court 28 = .ok (.aload_n 0, 1) := by decide +kernel
theorem dX11_court_29 : decode cX11_court 29 = .ok (.getfield 19, 3) := by decide +kernel
theorem dX11_court_32 : decode cX11_court 32 = .ok (.iload_n 1, 1) := by decide +kernel
theorem dX11_court_33 : decode cX11_court 33 = .ok (.iload_n 2, 1) := by decide +kernel
theorem dX11_court_34 : decode cX11_court 34 = .ok (.iload_n 3, 1) := by decide +kernel
theorem dX11_court_35 : decode cX11_court 35 = .ok (.invokevirtual 99, 3) := by decide +kernel
theorem dX11_court_38 : decode cX11_court 38 = .ok (.iconst 1, 1) := by decide +kernel
theorem dX11_court_39 : decode cX11_court 39 = .ok (.ireturn, 1) := by decide +kernel
theorem dX11_way_0 : decode cX11_way 0 = .ok (.iload_n 3, 1) := by decide +kernel
theorem dX11_way_1 : decode cX11_way 1 = .ok (.iconst (-1), 1) := by decide +kernel
theorem dX11_way_2 : decode cX11_way 2 = .ok (.if_icmp .eq 13, 3) := by decide +kernel
theorem dX11_way_5 : decode cX11_way 5 = .ok (.iload_n 3, 1) := by decide +kernel
theorem dX11_way_6 : decode cX11_way 6 = .ok (.iconst 1, 1) := by decide +kernel
theorem dX11_way_7 : decode cX11_way 7 = .ok (.bipush 99, 2) := by decide +kernel
theorem dX11_way_9 : decode cX11_way 9 = .ok (.invokestatic 95, 3) := by decide +kernel
theorem dX11_way_12 : decode cX11_way 12 = .ok (.ifCond .eq 7, 3) := by decide +kernel
theorem dX11_way_15 : decode cX11_way 15 = .ok (.iconst 1, 1) := by decide +kernel
theorem dX11_way_16 : decode cX11_way 16 = .ok (.goto 4, 3) := by decide +kernel
theorem dX11_way_19 : decode cX11_way 19 = .ok (.iconst 0, 1) := by decide +kernel
theorem dX11_way_20 : decode cX11_way 20 = .ok (.istore 4, 2) := by decide +kernel
theorem dX11_way_22 : decode cX11_way 22 = .ok (.iload_n 1, 1) := by decide +kernel
theorem dX11_way_23 : decode cX11_way 23 = .ok (.invokestatic 89, 3) := by decide +kernel
theorem dX11_way_26 : decode cX11_way 26 = .ok (.ifCond .eq 20, 3) := by decide +kernel
theorem dX11_way_29 : decode cX11_way 29 = .ok (.iload_n 2, 1) := by decide +kernel
theorem dX11_way_30 : decode cX11_way 30 = .ok (.invokestatic 89, 3) := by decide +kernel
theorem dX11_way_33 : decode cX11_way 33 = .ok (.ifCond .eq 13, 3) := by decide +kernel
theorem dX11_way_36 : decode cX11_way 36 = .ok (.iload_n 1, 1) := by decide +kernel
theorem dX11_way_37 : decode cX11_way 37 = .ok (.iload_n 2, 1) := by decide +kernel
theorem dX11_way_38 : decode cX11_way 38 = .ok (.if_icmp .eq 8, 3) := by decide +kernel
theorem dX11_way_41 : decode cX11_way 41 = .ok (.iload 4, 2) := by decide +kernel
theorem dX11_way_43 : decode cX11_way 43 = .ok (.ifCond .ne 6, 3) := by decide +kernel
theorem dX11_way_46 : decode cX11_way 46 = .ok (.bipush (-2), 2) := by decide +kernel
theorem dX11_way_48 : decode cX11_way 48 = .ok (.ireturn, 1) := by decide +kernel
theorem dX11_way_49 : decode cX11_way 49 = .ok (.aload_n 0, 1) := by decide +kernel
theorem dX11_way_50 : decode cX11_way 50 = .ok (.getfield 19, 3) := by decide +kernel
theorem dX11_way_53 : decode cX11_way 53 = .ok (.iload_n 1, 1) := by decide +kernel
theorem dX11_way_54 : decode cX11_way 54 = .ok (.iload_n 2, 1) := by decide +kernel
theorem dX11_way_55 : decode cX11_way 55 = .ok (.invokevirtual 103, 3) := by decide +kernel
theorem dX11_way_58 : decode cX11_way 58 = .ok (.istore 5, 2) := by decide +kernel
theorem dX11_way_60 : decode cX11_way 60 = .ok (.aload_n 0, 1) := by decide +kernel
theorem dX11_way_61 : decode cX11_way 61 = .ok (.getfield 19, 3) := by decide +kernel
theorem dX11_way_64 : decode cX11_way 64 = .ok (.iload_n 1, 1) := by decide +kernel
theorem dX11_way_65 : decode cX11_way 65 = .ok (.iload_n 2, 1) := by decide +kernel
theorem dX11_way_66 : decode cX11_way 66 = .ok (.iload_n 3, 1) := by decide +kernel
theorem dX11_way_67 : decode cX11_way 67 = .ok (.invokevirtual 107, 3) := by decide +kernel
theorem dX11_way_70 : decode cX11_way 70 = .ok (.iload 5, 2) := by decide +kernel
theorem dX11_way_72 : decode cX11_way 72 = .ok (.ireturn, 1) := by decide +kernel
theorem dX11_far_0 : decode cX11_far 0 = .ok (.iload_n 1, 1) := by decide +kernel
theorem dX11_far_1 : decode cX11_far 1 = .ok (.invokestatic 89, 3) := by decide +kernel
theorem dX11_far_4 : decode cX11_far 4 = .ok (.ifCond .eq 10, 3) := by decide +kernel
theorem dX11_far_7 : decode cX11_far 7 = .ok (.iload_n 2, 1) := by decide +kernel
theorem dX11_far_8 : decode cX11_far 8 = .ok (.invokestatic 89, 3) := by decide +kernel
theorem dX11_far_11 : decode cX11_far 11 = .ok (.ifCond .ne 6, 3) := by decide +kernel
theorem dX11_far_14 : decode cX11_far 14 = .ok (.bipush (-2), 2) := by decide +kernel
theorem dX11_far_16 : decode cX11_far 16 = .ok (.ireturn, 1) := by decide +kernel
theorem dX11_far_17 : decode cX11_far 17 = .ok (.aload_n 0, 1) := by decide +kernel
theorem dX11_far_18 : decode cX11_far 18 = .ok (.getfield 19, 3) := by decide +kernel
theorem dX11_far_21 : decode cX11_far 21 = .ok (.iload_n 1, 1) := by decide +kernel
theorem dX11_far_22 : decode cX11_far 22 = .ok (.iload_n 2, 1) := by decide +kernel
theorem dX11_far_23 : decode cX11_far 23 = .ok (.invokevirtual 110, 3) := by decide +kernel
theorem dX11_far_26 : decode cX11_far 26 = .ok (.ireturn, 1) := by decide +kernel
theorem dX11_rounds_0 : decode cX11_rounds 0 = .ok (.iload_n 1, 1) := by decide +kernel
theorem dX11_rounds_1 : decode cX11_rounds 1 = .ok (.iconst 1, 1) := by decide +kernel
theorem dX11_rounds_2 : decode cX11_rounds 2 = .ok (.if_icmp .lt 10, 3) := by decide +kernel
theorem dX11_rounds_5 : decode cX11_rounds 5 = .ok (.iload_n 1, 1) := by decide +kernel
theorem dX11_rounds_6 : decode cX11_rounds 6 = .ok (.sipush 4096, 3) := by decide +kernel
theorem dX11_rounds_9 : decode cX11_rounds 9 = .ok (.if_icmp .lt 6, 3) := by decide +kernel
theorem dX11_rounds_12 : decode cX11_rounds 12 = .ok (.bipush (-2), 2) := by decide +kernel
theorem dX11_rounds_14 : decode cX11_rounds 14 = .ok (.ireturn, 1) := by decide +kernel
theorem dX11_rounds_15 : decode cX11_rounds 15 = .ok (.iload_n 1, 1) := by decide +kernel
theorem dX11_rounds_16 : decode cX11_rounds 16 = .ok (.invokestatic 113, 3) := by decide +kernel
theorem dX11_rounds_19 : decode cX11_rounds 19 = .ok (.bipush 10, 2) := by decide +kernel
theorem dX11_rounds_21 : decode cX11_rounds 21 = .ok (.if_icmp .le 6, 3) := by decide +kernel
theorem dX11_rounds_24 : decode cX11_rounds 24 = .ok (.bipush (-3), 2) := by decide +kernel
theorem dX11_rounds_26 : decode cX11_rounds 26 = .ok (.ireturn, 1) := by decide +kernel
theorem dX11_rounds_27 : decode cX11_rounds 27 = .ok (.aload_n 0, 1) := by decide +kernel
theorem dX11_rounds_28 : decode cX11_rounds 28 = .ok (.getfield 26, 3) := by decide +kernel
theorem dX11_rounds_31 : decode cX11_rounds 31 = .ok (.iload_n 1, 1) := by decide +kernel
theorem dX11_rounds_32 : decode cX11_rounds 32 = .ok (.aload_n 0, 1) := by decide +kernel
theorem dX11_rounds_33 : decode cX11_rounds 33 = .ok (.getfield 19, 3) := by decide +kernel
theorem dX11_rounds_36 : decode cX11_rounds 36 = .ok (.invokevirtual 119, 3) := by decide +kernel
theorem dX11_rounds_39 : decode cX11_rounds 39 = .ok (.ireturn, 1) := by decide +kernel
theorem dX11_round_0 : decode cX11_round 0 = .ok (.aload_n 0, 1) := by decide +kernel
theorem dX11_round_1 : decode cX11_round 1 = .ok (.getfield 26, 3) := by decide +kernel
theorem dX11_round_4 : decode cX11_round 4 = .ok (.iload_n 1, 1) := by decide +kernel
theorem dX11_round_5 : decode cX11_round 5 = .ok (.invokevirtual 123, 3) := by decide +kernel
theorem dX11_round_8 : decode cX11_round 8 = .ok (.ireturn, 1) := by decide +kernel
theorem dX11_cry_0 : decode cX11_cry 0 = .ok (.iload_n 1, 1) := by decide +kernel
theorem dX11_cry_1 : decode cX11_cry 1 = .ok (.invokestatic 89, 3) := by decide +kernel
theorem dX11_cry_4 : decode cX11_cry 4 = .ok (.ifCond .eq 14, 3) := by decide +kernel
theorem dX11_cry_7 : decode cX11_cry 7 = .ok (.iload_n 2, 1) := by decide +kernel
theorem dX11_cry_8 : decode cX11_cry 8 = .ok (.iconst 0, 1) := by decide +kernel
theorem dX11_cry_9 : decode cX11_cry 9 = .ok (.sipush 999, 3) := by decide +kernel
theorem dX11_cry_12 : decode cX11_cry 12 = .ok (.invokestatic 95, 3) := by decide +kernel
theorem dX11_cry_15 : decode cX11_cry 15 = .ok (.ifCond .ne 6, 3) := by decide +kernel
theorem dX11_cry_18 : decode cX11_cry 18 = .ok (.bipush (-2), 2) := by decide +kernel
theorem dX11_cry_20 : decode cX11_cry 20 = .ok (.ireturn, 1) := by decide +kernel
theorem dX11_cry_21 : decode cX11_cry 21 = .ok (.iconst 0, 1) := by decide +kernel
theorem dX11_cry_22 : decode cX11_cry 22 = .ok (.istore_n 3, 1) := by decide +kernel
theorem dX11_cry_23 : decode cX11_cry 23 = .ok (.iconst 0, 1) := by decide +kernel
theorem dX11_cry_24 : decode cX11_cry 24 = .ok (.istore 4, 2) := by decide +kernel
theorem dX11_cry_26 : decode cX11_cry 26 = .ok (.iload 4, 2) := by decide +kernel
theorem dX11_cry_28 : decode cX11_cry 28 = .ok (.bipush 12, 2) := by decide +kernel
theorem dX11_cry_30 : decode cX11_cry 30 = .ok (.if_icmp .ge 40, 3) := by decide +kernel
theorem dX11_cry_33 : decode cX11_cry 33 = .ok (.aload_n 0, 1) := by decide +kernel
theorem dX11_cry_34 : decode cX11_cry 34 = .ok (.getfield 19, 3) := by decide +kernel
theorem dX11_cry_37 : decode cX11_cry 37 = .ok (.iload_n 1, 1) := by decide +kernel
theorem dX11_cry_38 : decode cX11_cry 38 = .ok (.iload 4, 2) := by decide +kernel
theorem dX11_cry_40 : decode cX11_cry 40 = .ok (.invokevirtual 110, 3) := by decide +kernel
theorem dX11_cry_43 : decode cX11_cry 43 = .ok (.istore 5, 2) := by decide +kernel
theorem dX11_cry_45 : decode cX11_cry 45 = .ok (.iload 5, 2) := by decide +kernel
theorem dX11_cry_47 : decode cX11_cry 47 = .ok (.iconst (-1), 1) := by decide +kernel
theorem dX11_cry_48 : decode cX11_cry 48 = .ok (.if_icmp .eq 16, 3) := by decide +kernel
theorem dX11_cry_51 : decode cX11_cry 51 = .ok (.iload 5, 2) := by decide +kernel
theorem dX11_cry_53 : decode cX11_cry 53 = .ok (.iload_n 2, 1) := by decide +kernel
theorem dX11_cry_54 : decode cX11_cry 54 = .ok (.if_icmp .gt 10, 3) := by decide +kernel
theorem dX11_cry_57 : decode cX11_cry 57 = .ok (.iload_n 3, 1) := by decide +kernel
theorem dX11_cry_58 : decode cX11_cry 58 = .ok (.iconst 1, 1) := by decide +kernel
theorem dX11_cry_59 : decode cX11_cry 59 = .ok (.iload 4, 2) := by decide +kernel
theorem dX11_cry_61 : decode cX11_cry 61 = .ok (.ishl, 1) := by decide +kernel
theorem dX11_cry_62 : decode cX11_cry 62 = .ok (.ior, 1) := by decide +kernel
theorem dX11_cry_63 : decode cX11_cry 63 = .ok (.istore_n 3, 1) := by decide +kernel
theorem dX11_cry_64 : decode cX11_cry 64 = .ok (.iinc 4 1, 3) := by decide +kernel
theorem dX11_cry_67 : decode cX11_cry 67 = .ok (.goto (-41), 3) := by decide +kernel
theorem dX11_cry_70 : decode cX11_cry 70 = .ok (.iload_n 3, 1) := by decide +kernel
theorem dX11_cry_71 : decode cX11_cry 71 = .ok (.ireturn, 1) := by decide +kernel
theorem dX11_laws_0 : decode cX11_laws 0 = .ok (.bipush (-2), 2) := by decide +kernel
theorem dX11_laws_2 : decode cX11_laws 2 = .ok (.istore_n 2, 1) := by decide +kernel
theorem dX11_laws_3 : decode cX11_laws 3 = .ok (.iload_n 1, 1) := by decide +kernel
theorem dX11_laws_4 : decode cX11_laws 4 = .ok (.invokestatic 92, 3) := by decide +kernel
theorem dX11_laws_7 : decode cX11_laws 7 = .ok (.ifCond .eq 30, 3) := by decide +kernel
theorem dX11_laws_10 : decode cX11_laws 10 = .ok (.aload_n 0, 1) := by decide +kernel
theorem dX11_laws_11 : decode cX11_laws 11 = .ok (.getfield 35, 3) := by decide +kernel
theorem dX11_laws_14 : decode cX11_laws 14 = .ok (.aload_n 0, 1) := by decide +kernel
theorem dX11_laws_15 : decode cX11_laws 15 = .ok (.getfield 69, 3) := by decide +kernel
theorem dX11_laws_18 : decode cX11_laws 18 = .ok (.invokevirtual 126, 3) := by decide +kernel
theorem dX11_laws_21 : decode cX11_laws 21 = .ok (.istore_n 2, 1) := by decide +kernel
theorem dX11_laws_22 : decode cX11_laws 22 = .ok (.iload_n 2, 1) := by decide +kernel
theorem dX11_laws_23 : decode cX11_laws 23 = .ok (.iconst (-1), 1) := by decide +kernel
theorem dX11_laws_24 : decode cX11_laws 24 = .ok (.if_icmp .eq 13, 3) := by decide +kernel
theorem dX11_laws_27 : decode cX11_laws 27 = .ok (.aload_n 0, 1) := by decide +kernel
theorem dX11_laws_28 : decode cX11_laws 28 = .ok (.aload_n 0, 1) := by decide +kernel
theorem dX11_laws_29 : decode cX11_laws 29 = .ok (.getfield 41, 3) := by decide +kernel
theorem dX11_laws_32 : decode cX11_laws 32 = .ok (.iload_n 1, 1) := by decide +kernel
theorem dX11_laws_33 : decode cX11_laws 33 = .ok (.aaload, 1) := by decide +kernel
theorem dX11_laws_34 : decode cX11_laws 34 = .ok (.invokevirtual 130, 3) := by decide +kernel
theorem dX11_laws_37 : decode cX11_laws 37 = .ok (.aload_n 0, 1) := by decide +kernel
theorem dX11_laws_38 : decode cX11_laws 38 = .ok (.getfield 10, 3) := by decide +kernel
theorem dX11_laws_41 : decode cX11_laws 41 = .ok (.iconst 0, 1) := by decide +kernel
theorem dX11_laws_42 : decode cX11_laws 42 = .ok (.invokevirtual 86, 3) := by decide +kernel
theorem dX11_laws_45 : decode cX11_laws 45 = .ok (.iload_n 2, 1) := by decide +kernel
theorem dX11_laws_46 : decode cX11_laws 46 = .ok (.ireturn, 1) := by decide +kernel
theorem dX11_enactDraft_0 : decode cX11_enactDraft 0 = .ok (.aload_n 0, 1) := by decide +kernel
theorem dX11_enactDraft_1 : decode cX11_enactDraft 1 = .ok (.getfield 69, 3) := by decide +kernel
theorem dX11_enactDraft_4 : decode cX11_enactDraft 4 = .ok (.astore_n 2, 1) := by decide +kernel
theorem dX11_enactDraft_5 : decode cX11_enactDraft 5 = .ok (.aload_n 0, 1) := by decide +kernel
theorem dX11_enactDraft_6 : decode cX11_enactDraft 6 = .ok (.aload_n 1, 1) := by decide +kernel
theorem dX11_enactDraft_7 : decode cX11_enactDraft 7 = .ok (.getfield 134, 3) := by decide +kernel
theorem dX11_enactDraft_10 : decode cX11_enactDraft 10 = .ok (.putfield 69, 3) := by decide +kernel
theorem dX11_enactDraft_13 : decode cX11_enactDraft 13 = .ok (.aload_n 1, 1) := by decide +kernel
theorem dX11_enactDraft_14 : decode cX11_enactDraft 14 = .ok (.aload_n 2, 1) := by decide +kernel
theorem dX11_enactDraft_15 : decode cX11_enactDraft 15 = .ok (.putfield 134, 3) := by decide +kernel
theorem dX11_enactDraft_18 : decode cX11_enactDraft 18 = .ok (.return_, 1) := by decide +kernel
theorem dX11_fault_0 : decode cX11_fault 0 = .ok (.iload_n 1, 1) := by decide +kernel
theorem dX11_fault_1 : decode cX11_fault 1 = .ok (.lookupswitch 43 #[(0, 27), (1, 35)], 27) := by decide +kernel
theorem dX11_fault_28 : decode cX11_fault 28 = .ok (.aload_n 0, 1) := by decide +kernel
theorem dX11_fault_29 : decode cX11_fault 29 = .ok (.getfield 35, 3) := by decide +kernel
theorem dX11_fault_32 : decode cX11_fault 32 = .ok (.invokevirtual 137, 3) := by decide +kernel
theorem dX11_fault_35 : decode cX11_fault 35 = .ok (.ireturn, 1) := by decide +kernel
theorem dX11_fault_36 : decode cX11_fault 36 = .ok (.aload_n 0, 1) := by decide +kernel
theorem dX11_fault_37 : decode cX11_fault 37 = .ok (.getfield 35, 3) := by decide +kernel
theorem dX11_fault_40 : decode cX11_fault 40 = .ok (.invokevirtual 140, 3) := by decide +kernel
theorem dX11_fault_43 : decode cX11_fault 43 = .ok (.ireturn, 1) := by decide +kernel
theorem dX11_fault_44 : decode cX11_fault 44 = .ok (.iconst (-1), 1) := by decide +kernel
theorem dX11_fault_45 : decode cX11_fault 45 = .ok (.ireturn, 1) := by decide +kernel
theorem dX11_law_0 : decode cX11_law 0 = .ok (.iload_n 1, 1) := by decide +kernel
theorem dX11_law_1 : decode cX11_law 1 = .ok (.invokestatic 92, 3) := by decide +kernel
theorem dX11_law_4 : decode cX11_law 4 = .ok (.ifCond .eq 19, 3) := by decide +kernel
theorem dX11_law_7 : decode cX11_law 7 = .ok (.aload_n 0, 1) := by decide +kernel
theorem dX11_law_8 : decode cX11_law 8 = .ok (.getfield 41, 3) := by decide +kernel
theorem dX11_law_11 : decode cX11_law 11 = .ok (.iload_n 1, 1) := by decide +kernel
theorem dX11_law_12 : decode cX11_law 12 = .ok (.aaload, 1) := by decide +kernel
theorem dX11_law_13 : decode cX11_law 13 = .ok (.getfield 134, 3) := by decide +kernel
theorem dX11_law_16 : decode cX11_law 16 = .ok (.iload_n 2, 1) := by decide +kernel
theorem dX11_law_17 : decode cX11_law 17 = .ok (.invokevirtual 143, 3) := by decide +kernel
theorem dX11_law_20 : decode cX11_law 20 = .ok (.goto 5, 3) := by decide +kernel
theorem dX11_law_23 : decode cX11_law 23 = .ok (.bipush (-9), 2) := by decide +kernel
theorem dX11_law_25 : decode cX11_law 25 = .ok (.ireturn, 1) := by decide +kernel
theorem dX11_may_0 : decode cX11_may 0 = .ok (.iload_n 1, 1) := by decide +kernel
theorem dX11_may_1 : decode cX11_may 1 = .ok (.iload_n 2, 1) := by decide +kernel
theorem dX11_may_2 : decode cX11_may 2 = .ok (.iload_n 3, 1) := by decide +kernel
theorem dX11_may_3 : decode cX11_may 3 = .ok (.invokestatic 144, 3) := by decide +kernel
theorem dX11_may_6 : decode cX11_may 6 = .ok (.ifCond .ne 6, 3) := by decide +kernel
theorem dX11_may_9 : decode cX11_may 9 = .ok (.bipush (-2), 2) := by decide +kernel
theorem dX11_may_11 : decode cX11_may 11 = .ok (.ireturn, 1) := by decide +kernel
theorem dX11_may_12 : decode cX11_may 12 = .ok (.aload_n 0, 1) := by decide +kernel
theorem dX11_may_13 : decode cX11_may 13 = .ok (.getfield 41, 3) := by decide +kernel

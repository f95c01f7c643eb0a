theorem dX4_addPower_37 : decode cX4_addPower 37 = .ok (.aload_n 0, 1) := by decide +kernel
theorem dX4_addPower_38 : decode cX4_addPower 38 = .ok (.getfield 21, 3) := by decide +kernel
theorem dX4_addPower_41 : decode cX4_addPower 41 = .ok (.aload_n 0, 1) := by decide +kernel
theorem dX4_addPower_42 : decode cX4_addPower 42 = .ok (.getfield 54, 3) := by decide +kernel
theorem dX4_addPower_45 : decode cX4_addPower 45 = .ok (.iload 4, 2) := by decide +kernel
theorem dX4_addPower_47 : decode cX4_addPower 47 = .ok (.bastore, 1) := by decide +kernel
theorem dX4_addPower_48 : decode cX4_addPower 48 = .ok (.aload_n 0, 1) := by decide +kernel
theorem dX4_addPower_49 : decode cX4_addPower 49 = .ok (.dup, 1) := by decide +kernel
theorem dX4_addPower_50 : decode cX4_addPower 50 = .ok (.getfield 54, 3) := by decide +kernel
theorem dX4_addPower_53 : decode cX4_addPower 53 = .ok (.iconst 1, 1) := by decide +kernel
theorem dX4_addPower_54 : decode cX4_addPower 54 = .ok (.iadd, 1) := by decide +kernel
theorem dX4_addPower_55 : decode cX4_addPower 55 = .ok (.putfield 54, 3) := by decide +kernel
theorem dX4_addPower_58 : decode cX4_addPower 58 = .ok (.return_, 1) := by decide +kernel
theorem dX4_tell_0 : decode cX4_tell 0 = .ok (.iload_n 1, 1) := by decide +kernel
theorem dX4_tell_1 : decode cX4_tell 1 = .ok (.tableswitch 104 0 8 #[51, 56, 61, 66, 71, 76, 81, 94, 99], 51) := by decide +kernel
theorem dX4_tell_52 : decode cX4_tell 52 = .ok (.aload_n 0, 1) := by decide +kernel
theorem dX4_tell_53 : decode cX4_tell 53 = .ok (.getfield 28, 3) := by decide +kernel
theorem dX4_tell_56 : decode cX4_tell 56 = .ok (.ireturn, 1) := by decide +kernel
theorem dX4_tell_57 : decode cX4_tell 57 = .ok (.aload_n 0, 1) := by decide +kernel
theorem dX4_tell_58 : decode cX4_tell 58 = .ok (.getfield 32, 3) := by decide +kernel
theorem dX4_tell_61 : decode cX4_tell 61 = .ok (.ireturn, 1) := by decide +kernel
theorem dX4_tell_62 : decode cX4_tell 62 = .ok (.aload_n 0, 1) := by decide +kernel
theorem dX4_tell_63 : decode cX4_tell 63 = .ok (.getfield 35, 3) := by decide +kernel
theorem dX4_tell_66 : decode cX4_tell 66 = .ok (.ireturn, 1) := by decide +kernel
theorem dX4_tell_67 : decode cX4_tell 67 = .ok (.aload_n 0, 1) := by decide +kernel
theorem dX4_tell_68 : decode cX4_tell 68 = .ok (.getfield 38, 3) := by decide +kernel
theorem dX4_tell_71 : decode cX4_tell 71 = .ok (.ireturn, 1) := by decide +kernel
theorem dX4_tell_72 : decode cX4_tell 72 = .ok (.aload_n 0, 1) := by decide +kernel
theorem dX4_tell_73 : decode cX4_tell 73 = .ok (.getfield 41, 3) := by decide +kernel
theorem dX4_tell_76 : decode cX4_tell 76 = .ok (.ireturn, 1) := by decide +kernel
theorem dX4_tell_77 : decode cX4_tell 77 = .ok (.aload_n 0, 1) := by decide +kernel
theorem dX4_tell_78 : decode cX4_tell 78 = .ok (.getfield 44, 3) := by decide +kernel
theorem dX4_tell_81 : decode cX4_tell 81 = .ok (.ireturn, 1) := by decide +kernel
theorem dX4_tell_82 : decode cX4_tell 82 = .ok (.aload_n 0, 1) := by decide +kernel
theorem dX4_tell_83 : decode cX4_tell 83 = .ok (.getfield 47, 3) := by decide +kernel
theorem dX4_tell_86 : decode cX4_tell 86 = .ok (.ifCond .eq 7, 3) := by decide +kernel
theorem dX4_tell_89 : decode cX4_tell 89 = .ok (.iconst 1, 1) := by decide +kernel
theorem dX4_tell_90 : decode cX4_tell 90 = .ok (.goto 4, 3) := by decide +kernel
theorem dX4_tell_93 : decode cX4_tell 93 = .ok (.iconst 0, 1) := by decide +kernel
theorem dX4_tell_94 : decode cX4_tell 94 = .ok (.ireturn, 1) := by decide +kernel
theorem dX4_tell_95 : decode cX4_tell 95 = .ok (.aload_n 0, 1) := by decide +kernel
theorem dX4_tell_96 : decode cX4_tell 96 = .ok (.getfield 51, 3) := by decide +kernel
theorem dX4_tell_99 : decode cX4_tell 99 = .ok (.ireturn, 1) := by decide +kernel
theorem dX4_tell_100 : decode cX4_tell 100 = .ok (.aload_n 0, 1) := by decide +kernel
theorem dX4_tell_101 : decode cX4_tell 101 = .ok (.getfield 54, 3) := by decide +kernel
theorem dX4_tell_104 : decode cX4_tell 104 = .ok (.ireturn, 1) := by decide +kernel
theorem dX4_tell_105 : decode cX4_tell 105 = .ok (.bipush (-9), 2) := by decide +kernel
theorem dX4_tell_107 : decode cX4_tell 107 = .ok (.ireturn, 1) := by decide +kernel
theorem dX4_gives_0 : decode cX4_gives 0 = .ok (.iconst 0, 1) := by decide +kernel
theorem dX4_gives_1 : decode cX4_gives 1 = .ok (.istore 4, 2) := by decide +kernel
theorem dX4_gives_3 : decode cX4_gives 3 = .ok (.iload 4, 2) := by decide +kernel
theorem dX4_gives_5 : decode cX4_gives 5 = .ok (.aload_n 0, 1) := by decide +kernel
theorem dX4_gives_6 : decode cX4_gives 6 = .ok (.getfield 54, 3) := by decide +kernel
theorem dX4_gives_9 : decode cX4_gives 9 = .ok (.if_icmp .ge 46, 3) := by decide +kernel
theorem dX4_gives_12 : decode cX4_gives 12 = .ok (.aload_n 0, 1) := by decide +kernel
theorem dX4_gives_13 : decode cX4_gives 13 = .ok (.getfield 11, 3) := by decide +kernel
theorem dX4_gives_16 : decode cX4_gives 16 = .ok (.iload 4, 2) := by decide +kernel
theorem dX4_gives_18 : decode cX4_gives 18 = .ok (.iaload, 1) := by decide +kernel
theorem dX4_gives_19 : decode cX4_gives 19 = .ok (.iload_n 1, 1) := by decide +kernel
theorem dX4_gives_20 : decode cX4_gives 20 = .ok (.if_icmp .ne 29, 3) := by decide +kernel
theorem dX4_gives_23 : decode cX4_gives 23 = .ok (.aload_n 0, 1) := by decide +kernel
theorem dX4_gives_24 : decode cX4_gives 24 = .ok (.iload 4, 2) := by decide +kernel
theorem dX4_gives_26 : decode cX4_gives 26 = .ok (.iload_n 2, 1) := by decide +kernel
theorem dX4_gives_27 : decode cX4_gives 27 = .ok (.invokevirtual 61, 3) := by decide +kernel
theorem dX4_gives_30 : decode cX4_gives 30 = .ok (.ifCond .eq 19, 3) := by decide +kernel
theorem dX4_gives_33 : decode cX4_gives 33 = .ok (.iload_n 3, 1) := by decide +kernel
theorem dX4_gives_34 : decode cX4_gives 34 = .ok (.ifCond .ne 13, 3) := by decide +kernel
theorem dX4_gives_37 : decode cX4_gives 37 = .ok (.aload_n 0, 1) := by decide +kernel
theorem dX4_gives_38 : decode cX4_gives 38 = .ok (.getfield 21, 3) := by decide +kernel
theorem dX4_gives_41 : decode cX4_gives 41 = .ok (.iload 4, 2) := by decide +kernel
theorem dX4_gives_43 : decode cX4_gives 43 = .ok (.baload, 1) := by decide +kernel
theorem dX4_gives_44 : decode cX4_gives 44 = .ok (.ifCond .ne 5, 3) := by decide +kernel
theorem dX4_gives_47 : decode cX4_gives 47 = .ok (.iconst 1, 1) := by decide +kernel
theorem dX4_gives_48 : decode cX4_gives 48 = .ok (.ireturn, 1) := by decide +kernel
theorem dX4_gives_49 : decode cX4_gives 49 = .ok (.iinc 4 1, 3) := by decide +kernel
theorem dX4_gives_52 : decode cX4_gives 52 = .ok (.goto (-49), 3) := by decide +kernel
theorem dX4_gives_55 : decode cX4_gives 55 = .ok (.iconst 0, 1) := by decide +kernel
theorem dX4_gives_56 : decode cX4_gives 56 = .ok (.ireturn, 1) := by decide +kernel
theorem dX4_hasHour_0 : decode cX4_hasHour 0 = .ok (.aload_n 0, 1) := by decide +kernel
theorem dX4_hasHour_1 : decode cX4_hasHour 1 = .ok (.getfield 18, 3) := by decide +kernel
theorem dX4_hasHour_4 : decode cX4_hasHour 4 = .ok (.iload_n 1, 1) := by decide +kernel
theorem dX4_hasHour_5 : decode cX4_hasHour 5 = .ok (.iaload, 1) := by decide +kernel
theorem dX4_hasHour_6 : decode cX4_hasHour 6 = .ok (.aload_n 0, 1) := by decide +kernel
theorem dX4_hasHour_7 : decode cX4_hasHour 7 = .ok (.getfield 15, 3) := by decide +kernel
theorem dX4_hasHour_10 : decode cX4_hasHour 10 = .ok (.iload_n 1, 1) := by decide +kernel
theorem dX4_hasHour_11 : decode cX4_hasHour 11 = .ok (.iaload, 1) := by decide +kernel
theorem dX4_hasHour_12 : decode cX4_hasHour 12 = .ok (.if_icmp .ge 29, 3) := by decide +kernel
theorem dX4_hasHour_15 : decode cX4_hasHour 15 = .ok (.iload_n 2, 1) := by decide +kernel
theorem dX4_hasHour_16 : decode cX4_hasHour 16 = .ok (.aload_n 0, 1) := by decide +kernel
theorem dX4_hasHour_17 : decode cX4_hasHour 17 = .ok (.getfield 15, 3) := by decide +kernel
theorem dX4_hasHour_20 : decode cX4_hasHour 20 = .ok (.iload_n 1, 1) := by decide +kernel
theorem dX4_hasHour_21 : decode cX4_hasHour 21 = .ok (.iaload, 1) := by decide +kernel
theorem dX4_hasHour_22 : decode cX4_hasHour 22 = .ok (.if_icmp .ge 13, 3) := by decide +kernel
theorem dX4_hasHour_25 : decode cX4_hasHour 25 = .ok (.iload_n 2, 1) := by decide +kernel
theorem dX4_hasHour_26 : decode cX4_hasHour 26 = .ok (.aload_n 0, 1) := by decide +kernel
theorem dX4_hasHour_27 : decode cX4_hasHour 27 = .ok (.getfield 18, 3) := by decide +kernel
theorem dX4_hasHour_30 : decode cX4_hasHour 30 = .ok (.iload_n 1, 1) := by decide +kernel
theorem dX4_hasHour_31 : decode cX4_hasHour 31 = .ok (.iaload, 1) := by decide +kernel
theorem dX4_hasHour_32 : decode cX4_hasHour 32 = .ok (.if_icmp .gt 7, 3) := by decide +kernel
theorem dX4_hasHour_35 : decode cX4_hasHour 35 = .ok (.iconst 1, 1) := by decide +kernel
theorem dX4_hasHour_36 : decode cX4_hasHour 36 = .ok (.goto 4, 3) := by decide +kernel
theorem dX4_hasHour_39 : decode cX4_hasHour 39 = .ok (.iconst 0, 1) := by decide +kernel
theorem dX4_hasHour_40 : decode cX4_hasHour 40 = .ok (.ireturn, 1) := by decide +kernel
theorem dX4_hasHour_41 : decode cX4_hasHour 41 = .ok (.iload_n 2, 1) := by decide +kernel
theorem dX4_hasHour_42 : decode cX4_hasHour 42 = .ok (.aload_n 0, 1) := by decide +kernel
theorem dX4_hasHour_43 : decode cX4_hasHour 43 = .ok (.getfield 15, 3) := by decide +kernel
theorem dX4_hasHour_46 : decode cX4_hasHour 46 = .ok (.iload_n 1, 1) := by decide +kernel
theorem dX4_hasHour_47 : decode cX4_hasHour 47 = .ok (.iaload, 1) := by decide +kernel
theorem dX4_hasHour_48 : decode cX4_hasHour 48 = .ok (.if_icmp .lt 17, 3) := by decide +kernel
theorem dX4_hasHour_51 : decode cX4_hasHour 51 = .ok (.iload_n 2, 1) := by decide +kernel
theorem dX4_hasHour_52 : decode cX4_hasHour 52 = .ok (.aload_n 0, 1) := by decide +kernel
theorem dX4_hasHour_53 : decode cX4_hasHour 53 = .ok (.getfield 18, 3) := by decide +kernel
theorem dX4_hasHour_56 : decode cX4_hasHour 56 = .ok (.iload_n 1, 1) := by decide +kernel
theorem dX4_hasHour_57 : decode cX4_hasHour 57 = .ok (.iaload, 1) := by decide +kernel
theorem dX4_hasHour_58 : decode cX4_hasHour 58 = .ok (.if_icmp .gt 7, 3) := by decide +kernel
theorem dX4_hasHour_61 : decode cX4_hasHour 61 = .ok (.iconst 1, 1) := by decide +kernel
theorem dX4_hasHour_62 : decode cX4_hasHour 62 = .ok (.goto 4, 3) := by decide +kernel
theorem dX4_hasHour_65 : decode cX4_hasHour 65 = .ok (.iconst 0, 1) := by decide +kernel
theorem dX4_hasHour_66 : decode cX4_hasHour 66 = .ok (.ireturn, 1) := by decide +kernel
theorem dX4_letFollow_0 : decode cX4_letFollow 0 = .ok (.aload_n 0, 1) := by decide +kernel
theorem dX4_letFollow_1 : decode cX4_letFollow 1 = .ok (.getfield 44, 3) := by decide +kernel
theorem dX4_letFollow_4 : decode cX4_letFollow 4 = .ok (.iconst (-1), 1) := by decide +kernel
theorem dX4_letFollow_5 : decode cX4_letFollow 5 = .ok (.if_icmp .eq 18, 3) := by decide +kernel
theorem dX4_letFollow_8 : decode cX4_letFollow 8 = .ok (.iload_n 1, 1) := by decide +kernel
theorem dX4_letFollow_9 : decode cX4_letFollow 9 = .ok (.ifCond .ne 10, 3) := by decide +kernel
theorem dX4_letFollow_12 : decode cX4_letFollow 12 = .ok (.aload_n 0, 1) := by decide +kernel
theorem dX4_letFollow_13 : decode cX4_letFollow 13 = .ok (.getfield 47, 3) := by decide +kernel
theorem dX4_letFollow_16 : decode cX4_letFollow 16 = .ok (.ifCond .ne 7, 3) := by decide +kernel
theorem dX4_letFollow_19 : decode cX4_letFollow 19 = .ok (.iconst 1, 1) := by decide +kernel
theorem dX4_letFollow_20 : decode cX4_letFollow 20 = .ok (.goto 4, 3) := by decide +kernel
theorem dX4_letFollow_23 : decode cX4_letFollow 23 = .ok (.iconst 0, 1) := by decide +kernel
theorem dX4_letFollow_24 : decode cX4_letFollow 24 = .ok (.ireturn, 1) := by decide +kernel
theorem dX5_init_0 : decode cX5_init 0 = .ok (.aload_n 0, 1) := by decide +kernel
theorem dX5_init_1 : decode cX5_init 1 = .ok (.invokespecial 3, 3) := by decide +kernel
theorem dX5_init_4 : decode cX5_init 4 = .ok (.aload_n 0, 1) := by decide +kernel
theorem dX5_init_5 : decode cX5_init 5 = .ok (.bipush 100, 2) := by decide +kernel
theorem dX5_init_7 : decode cX5_init 7 = .ok (.anewarray 11, 3) := by decide +kernel
theorem dX5_init_10 : decode cX5_init 10 = .ok (.putfield 13, 3) := by decide +kernel
theorem dX5_init_13 : decode cX5_init 13 = .ok (.return_, 1) := by decide +kernel
theorem dX5_size_0 : decode cX5_size 0 = .ok (.aload_n 0, 1) := by decide +kernel
theorem dX5_size_1 : decode cX5_size 1 = .ok (.getfield 17, 3) := by decide +kernel
theorem dX5_size_4 : decode cX5_size 4 = .ok (.ireturn, 1) := by decide +kernel
theorem dX5_isFull_0 : decode cX5_isFull 0 = .ok (.aload_n 0, 1) := by decide +kernel
theorem dX5_isFull_1 : decode cX5_isFull 1 = .ok (.getfield 17, 3) := by decide +kernel
theorem dX5_isFull_4 : decode cX5_isFull 4 = .ok (.bipush 100, 2) := by decide +kernel
theorem dX5_isFull_6 : decode cX5_isFull 6 = .ok (.if_icmp .lt 7, 3) := by decide +kernel
theorem dX5_isFull_9 : decode cX5_isFull 9 = .ok (.iconst 1, 1) := by decide +kernel
theorem dX5_isFull_10 : decode cX5_isFull 10 = .ok (.goto 4, 3) := by decide +kernel
theorem dX5_isFull_13 : decode cX5_isFull 13 = .ok (.iconst 0, 1) := by decide +kernel
theorem dX5_isFull_14 : decode cX5_isFull 14 = .ok (.ireturn, 1) := by decide +kernel
theorem dX5_find_0 : decode cX5_find 0 = .ok (.iload_n 1, 1) := by decide +kernel
theorem dX5_find_1 : decode cX5_find 1 = .ok (.ifCond .lt 20, 3) := by decide +kernel
theorem dX5_find_4 : decode cX5_find 4 = .ok (.iload_n 1, 1) := by decide +kernel
theorem dX5_find_5 : decode cX5_find 5 = .ok (.aload_n 0, 1) := by decide +kernel
theorem dX5_find_6 : decode cX5_find 6 = .ok (.getfield 17, 3) := by decide +kernel
theorem dX5_find_9 : decode cX5_find 9 = .ok (.if_icmp .ge 12, 3) := by decide +kernel
theorem dX5_find_12 : decode cX5_find 12 = .ok (.aload_n 0, 1) := by decide +kernel
theorem dX5_find_13 : decode cX5_find 13 = .ok (.getfield 13, 3) := by decide +kernel
theorem dX5_find_16 : decode cX5_find 16 = .ok (.iload_n 1, 1) := by decide +kernel
theorem dX5_find_17 : decode cX5_find 17 = .ok (.aaload, 1) := by decide +kernel
theorem dX5_find_18 : decode cX5_find 18 = .ok (.goto 4, 3) := by decide +kernel
theorem dX5_find_21 : decode cX5_find 21 = .ok (.aconst_null, 1) := by decide +kernel
theorem dX5_find_22 : decode cX5_find 22 = .ok (.areturn, 1) := by decide +kernel
theorem dX5_take_0 : decode cX5_take 0 = .ok (.aload_n 2, 1) := by decide +kernel
theorem dX5_take_1 : decode cX5_take 1 = .ok (.aload_n 1, 1) := by decide +kernel
theorem dX5_take_2 : decode cX5_take 2 = .ok (.getfield 21, 3) := by decide +kernel
theorem dX5_take_5 : decode cX5_take 5 = .ok (.aaload, 1) := by decide +kernel
theorem dX5_take_6 : decode cX5_take 6 = .ok (.astore 4, 2) := by decide +kernel
theorem dX5_take_8 : decode cX5_take 8 = .ok (.aload 4, 2) := by decide +kernel
theorem dX5_take_10 : decode cX5_take 10 = .ok (.getfield 24, 3) := by decide +kernel
theorem dX5_take_13 : decode cX5_take 13 = .ok (.aload_n 1, 1) := by decide +kernel
theorem dX5_take_14 : decode cX5_take 14 = .ok (.getfield 30, 3) := by decide +kernel
theorem dX5_take_17 : decode cX5_take 17 = .ok (.aload_n 1, 1) := by decide +kernel
theorem dX5_take_18 : decode cX5_take 18 = .ok (.getfield 33, 3) := by decide +kernel
theorem dX5_take_21 : decode cX5_take 21 = .ok (.iload_n 3, 1) := by decide +kernel
theorem dX5_take_22 : decode cX5_take 22 = .ok (.invokevirtual 36, 3) := by decide +kernel
theorem dX5_take_25 : decode cX5_take 25 = .ok (.ifCond .eq 13, 3) := by decide +kernel
theorem dX5_take_28 : decode cX5_take 28 = .ok (.aload_n 0, 1) := by decide +kernel
theorem dX5_take_29 : decode cX5_take 29 = .ok (.aload_n 1, 1) := by decide +kernel
theorem dX5_take_30 : decode cX5_take 30 = .ok (.aload_n 2, 1) := by decide +kernel
theorem dX5_take_31 : decode cX5_take 31 = .ok (.iload_n 3, 1) := by decide +kernel
theorem dX5_take_32 : decode cX5_take 32 = .ok (.invokevirtual 42, 3) := by decide +kernel
theorem dX5_take_35 : decode cX5_take 35 = .ok (.goto 19, 3) := by decide +kernel
theorem dX5_take_38 : decode cX5_take 38 = .ok (.aload_n 1, 1) := by decide +kernel
theorem dX5_take_39 : decode cX5_take 39 = .ok (.iconst 1, 1) := by decide +kernel
theorem dX5_take_40 : decode cX5_take 40 = .ok (.putfield 46, 3) := by decide +kernel
theorem dX5_take_43 : decode cX5_take 43 = .ok (.aload 4, 2) := by decide +kernel
theorem dX5_take_45 : decode cX5_take 45 = .ok (.dup, 1) := by decide +kernel
theorem dX5_take_46 : decode cX5_take 46 = .ok (.getfield 49, 3) := by decide +kernel
theorem dX5_take_49 : decode cX5_take 49 = .ok (.iconst 5, 1) := by decide +kernel
theorem dX5_take_50 : decode cX5_take 50 = .ok (.isub, 1) := by decide +kernel
theorem dX5_take_51 : decode cX5_take 51 = .ok (.putfield 49, 3) := by decide +kernel
theorem dX5_take_54 : decode cX5_take 54 = .ok (.aload_n 0, 1) := by decide +kernel
theorem dX5_take_55 : decode cX5_take 55 = .ok (.getfield 13, 3) := by decide +kernel
theorem dX5_take_58 : decode cX5_take 58 = .ok (.aload_n 0, 1) := by decide +kernel
theorem dX5_take_59 : decode cX5_take 59 = .ok (.getfield 17, 3) := by decide +kernel
theorem dX5_take_62 : decode cX5_take 62 = .ok (.aload_n 1, 1) := by decide +kernel
theorem dX5_take_63 : decode cX5_take 63 = .ok (.aastore, 1) := by decide +kernel
theorem dX5_take_64 : decode cX5_take 64 = .ok (.aload_n 0, 1) := by decide +kernel
theorem dX5_take_65 : decode cX5_take 65 = .ok (.dup, 1) := by decide +kernel
theorem dX5_take_66 : decode cX5_take 66 = .ok (.getfield 17, 3) := by decide +kernel
theorem dX5_take_69 : decode cX5_take 69 = .ok (.iconst 1, 1) := by decide +kernel
theorem dX5_take_70 : decode cX5_take 70 = .ok (.iadd, 1) := by decide +kernel
theorem dX5_take_71 : decode cX5_take 71 = .ok (.putfield 17, 3) := by decide +kernel
theorem dX5_take_74 : decode cX5_take 74 = .ok (.aload_n 0, 1) := by decide +kernel
theorem dX5_take_75 : decode cX5_take 75 = .ok (.getfield 17, 3) := by decide +kernel
theorem dX5_take_78 : decode cX5_take 78 = .ok (.iconst 1, 1) := by decide +kernel
theorem dX5_take_79 : decode cX5_take 79 = .ok (.isub, 1) := by decide +kernel
theorem dX5_take_80 : decode cX5_take 80 = .ok (.ireturn, 1) := by decide +kernel
theorem dX5_lockUp_0 : decode cX5_lockUp 0 = .ok (.aload_n 1, 1) := by decide +kernel
theorem dX5_lockUp_1 : decode cX5_lockUp 1 = .ok (.getfield 21, 3) := by decide +kernel
theorem dX5_lockUp_4 : decode cX5_lockUp 4 = .ok (.aload_n 2, 1) := by decide +kernel
theorem dX5_lockUp_5 : decode cX5_lockUp 5 = .ok (.invokestatic 52, 3) := by decide +kernel
theorem dX5_lockUp_8 : decode cX5_lockUp 8 = .ok (.istore 4, 2) := by decide +kernel
theorem dX5_lockUp_10 : decode cX5_lockUp 10 = .ok (.iload 4, 2) := by decide +kernel
theorem dX5_lockUp_12 : decode cX5_lockUp 12 = .ok (.iconst (-1), 1) := by decide +kernel
theorem dX5_lockUp_13 : decode cX5_lockUp 13 = .ok (.if_icmp .eq 26, 3) := by decide +kernel
theorem dX5_lockUp_16 : decode cX5_lockUp 16 = .ok (.iload 4, 2) := by decide +kernel
theorem dX5_lockUp_18 : decode cX5_lockUp 18 = .ok (.aload_n 1, 1) := by decide +kernel
theorem dX5_lockUp_19 : decode cX5_lockUp 19 = .ok (.getfield 21, 3) := by decide +kernel
theorem dX5_lockUp_22 : decode cX5_lockUp 22 = .ok (.if_icmp .eq 23, 3) := by decide +kernel
theorem dX5_lockUp_25 : decode cX5_lockUp 25 = .ok (.aload_n 2, 1) := by decide +kernel
theorem dX5_lockUp_26 : decode cX5_lockUp 26 = .ok (.iload 4, 2) := by decide +kernel
theorem dX5_lockUp_28 : decode cX5_lockUp 28 = .ok (.aaload, 1) := by decide +kernel
theorem dX5_lockUp_29 : decode cX5_lockUp 29 = .ok (.getfield 24, 3) := by decide +kernel
theorem dX5_lockUp_32 : decode cX5_lockUp 32 = .ok (.iload_n 3, 1) := by decide +kernel
theorem dX5_lockUp_33 : decode cX5_lockUp 33 = .ok (.invokevirtual 56, 3) := by decide +kernel
theorem dX5_lockUp_36 : decode cX5_lockUp 36 = .ok (.ifCond .ne 9, 3) := by decide +kernel
theorem dX5_lockUp_39 : decode cX5_lockUp 39 = .ok (.aload_n 1, 1) := by decide +kernel
theorem dX5_lockUp_40 : decode cX5_lockUp 40 = .ok (.iconst 2, 1) := by decide +kernel
theorem dX5_lockUp_41 : decode cX5_lockUp 41 = .ok (.putfield 46, 3) := by decide +kernel
theorem dX5_lockUp_44 : decode cX5_lockUp 44 = .ok (.return_, 1) := by decide +kernel
theorem dX5_lockUp_45 : decode cX5_lockUp 45 = .ok (.aload_n 1, 1) := by decide +kernel
theorem dX5_lockUp_46 : decode cX5_lockUp 46 = .ok (.iload 4, 2) := by decide +kernel
theorem dX5_lockUp_48 : decode cX5_lockUp 48 = .ok (.putfield 60, 3) := by decide +kernel
theorem dX5_lockUp_51 : decode cX5_lockUp 51 = .ok (.aload_n 2, 1) := by decide +kernel
theorem dX5_lockUp_52 : decode cX5_lockUp 52 = .ok (.iload 4, 2) := by decide +kernel
theorem dX5_lockUp_54 : decode cX5_lockUp 54 = .ok (.aaload, 1) := by decide +kernel
theorem dX5_lockUp_55 : decode cX5_lockUp 55 = .ok (.dup, 1) := by decide +kernel
theorem dX5_lockUp_56 : decode cX5_lockUp 56 = .ok (.getfield 63, 3) := by decide +kernel
theorem dX5_lockUp_59 : decode cX5_lockUp 59 = .ok (.iconst 1, 1) := by decide +kernel
theorem dX5_lockUp_60 : decode cX5_lockUp 60 = .ok (.iadd, 1) := by decide +kernel
theorem dX5_lockUp_61 : decode cX5_lockUp 61 = .ok (.putfield 63, 3) := by decide +kernel
theorem dX5_lockUp_64 : decode cX5_lockUp 64 = .ok (.return_, 1) := by decide +kernel
theorem dX5_firstWithPlace_0 : decode cX5_firstWithPlace 0 = .ok (.iconst 0, 1) := by decide +kernel
theorem dX5_firstWithPlace_1 : decode cX5_firstWithPlace 1 = .ok (.istore_n 2, 1) := by decide +kernel
theorem dX5_firstWithPlace_2 : decode cX5_firstWithPlace 2 = .ok (.iload_n 2, 1) := by decide +kernel
theorem dX5_firstWithPlace_3 : decode cX5_firstWithPlace 3 = .ok (.iconst 4, 1) := by decide +kernel
theorem dX5_firstWithPlace_4 : decode cX5_firstWithPlace 4 = .ok (.if_icmp .ge 26, 3) := by decide +kernel
theorem dX5_firstWithPlace_7 : decode cX5_firstWithPlace 7 = .ok (.iload_n 0, 1) := by decide +kernel
theorem dX5_firstWithPlace_8 : decode cX5_firstWithPlace 8 = .ok (.iload_n 2, 1) := by decide +kernel
theorem dX5_firstWithPlace_9 : decode cX5_firstWithPlace 9 = .ok (.iadd, 1) := by decide +kernel
theorem dX5_firstWithPlace_10 : decode cX5_firstWithPlace 10 = .ok (.iconst 4, 1) := by decide +kernel
theorem dX5_firstWithPlace_11 : decode cX5_firstWithPlace 11 = .ok (.irem, 1) := by decide +kernel
theorem dX5_firstWithPlace_12 : decode cX5_firstWithPlace 12 = .ok (.istore_n 3, 1) := by decide +kernel
theorem dX5_firstWithPlace_13 : decode cX5_firstWithPlace 13 = .ok (.aload_n 1, 1) := by decide +kernel
theorem dX5_firstWithPlace_14 : decode cX5_firstWithPlace 14 = .ok (.iload_n 3, 1) := by decide +kernel
theorem dX5_firstWithPlace_15 : decode cX5_firstWithPlace 15 = .ok (.aaload, 1) := by decide +kernel
theorem dX5_firstWithPlace_16 : decode cX5_firstWithPlace 16 = .ok (.invokevirtual 66, 3) := by decide +kernel
theorem dX5_firstWithPlace_19 : decode cX5_firstWithPlace 19 = .ok (.ifCond .eq 5, 3) := by decide +kernel
theorem dX5_firstWithPlace_22 : decode cX5_firstWithPlace 22 = .ok (.iload_n 3, 1) := by decide +kernel
theorem dX5_firstWithPlace_23 : decode cX5_firstWithPlace 23 = .ok (.ireturn, 1) := by decide +kernel
theorem dX5_firstWithPlace_24 : decode cX5_firstWithPlace 24 = .ok (.iinc 2 1, 3) := by decide +kernel
theorem dX5_firstWithPlace_27 : decode cX5_firstWithPlace 27 = .ok (.goto (-25), 3) := by decide +kernel
theorem dX5_firstWithPlace_30 : decode cX5_firstWithPlace 30 = .ok (.iconst (-1), 1) := by decide +kernel
theorem dX5_firstWithPlace_31 : decode cX5_firstWithPlace 31 = .ok (.ireturn, 1) := by decide +kernel
theorem dX5_bringAll_0 : decode cX5_bringAll 0 = .ok (.iconst 0, 1) := by decide +kernel
theorem dX5_bringAll_1 : decode cX5_bringAll 1 = .ok (.istore_n 1, 1) := by decide +kernel
theorem dX5_bringAll_2 : decode cX5_bringAll 2 = .ok (.iconst 0, 1) := by decide +kernel
theorem dX5_bringAll_3 : decode cX5_bringAll 3 = .ok (.istore_n 2, 1) := by decide +kernel
theorem dX5_bringAll_4 : decode cX5_bringAll 4 = .ok (.iload_n 2, 1) := by decide +kernel
theorem dX5_bringAll_5 : decode cX5_bringAll 5 = .ok (.aload_n 0, 1) := by decide +kernel
theorem dX5_bringAll_6 : decode cX5_bringAll 6 = .ok (.getfield 17, 3) := by decide +kernel
theorem dX5_bringAll_9 : decode cX5_bringAll 9 = .ok (.if_icmp .ge 34, 3) := by decide +kernel
theorem dX5_bringAll_12 : decode cX5_bringAll 12 = .ok (.aload_n 0, 1) := by decide +kernel
theorem dX5_bringAll_13 : decode cX5_bringAll 13 = .ok (.getfield 13, 3) := by decide +kernel
theorem dX5_bringAll_16 : decode cX5_bringAll 16 = .ok (.iload_n 2, 1) := by decide +kernel
theorem dX5_bringAll_17 : decode cX5_bringAll 17 = .ok (.aaload, 1) := by decide +kernel
theorem dX5_bringAll_18 : decode cX5_bringAll 18 = .ok (.getfield 46, 3) := by decide +kernel
theorem dX5_bringAll_21 : decode cX5_bringAll 21 = .ok (.ifCond .ne 16, 3) := by decide +kernel
theorem dX5_bringAll_24 : decode cX5_bringAll 24 = .ok (.aload_n 0, 1) := by decide +kernel
theorem dX5_bringAll_25 : decode cX5_bringAll 25 = .ok (.getfield 13, 3) := by decide +kernel
theorem dX5_bringAll_28 : decode cX5_bringAll 28 = .ok (.iload_n 2, 1) := by decide +kernel
theorem dX5_bringAll_29 : decode cX5_bringAll 29 = .ok (.aaload, 1) := by decide +kernel
theorem dX5_bringAll_30 : decode cX5_bringAll 30 = .ok (.iconst 3, 1) := by decide +kernel
theorem dX5_bringAll_31 : decode cX5_bringAll 31 = .ok (.putfield 46, 3) := by decide +kernel
theorem dX5_bringAll_34 : decode cX5_bringAll 34 = .ok (.iinc 1 1, 3) := by decide +kernel
theorem dX5_bringAll_37 : decode cX5_bringAll 37 = .ok (.iinc 2 1, 3) := by decide +kernel
theorem dX5_bringAll_40 : decode cX5_bringAll 40 = .ok (.goto (-36), 3) := by decide +kernel
theorem dX5_bringAll_43 : decode cX5_bringAll 43 = .ok (.iload_n 1, 1) := by decide +kernel
theorem dX5_bringAll_44 : decode cX5_bringAll 44 = .ok (.ireturn, 1) := by decide +kernel
theorem dX6_init_0 : decode cX6_init 0 = .ok (.aload_n 0, 1) := by decide +kernel
theorem dX6_init_1 : decode cX6_init 1 = .ok (.invokespecial 5, 3) := by decide +kernel
theorem dX6_init_4 : decode cX6_init 4 = .ok (.aload_n 0, 1) := by decide +kernel
theorem dX6_init_5 : decode cX6_init 5 = .ok (.bipush 10, 2) := by decide +kernel
theorem dX6_init_7 : decode cX6_init 7 = .ok (.newarray .int, 2) := by decide +kernel
theorem dX6_init_9 : decode cX6_init 9 = .ok (.putfield 11, 3) := by decide +kernel
theorem dX6_init_12 : decode cX6_init 12 = .ok (.aload_n 0, 1) := by decide +kernel
theorem dX6_init_13 : decode cX6_init 13 = .ok (.bipush 100, 2) := by decide +kernel
theorem dX6_init_15 : decode cX6_init 15 = .ok (.newarray .int, 2) := by decide +kernel
theorem dX6_init_17 : decode cX6_init 17 = .ok (.putfield 15, 3) := by decide +kernel
theorem dX6_init_20 : decode cX6_init 20 = .ok (.aload_n 0, 1) := by decide +kernel
theorem dX6_init_21 : decode cX6_init 21 = .ok (.sipush 4608, 3) := by decide +kernel
theorem dX6_init_24 : decode cX6_init 24 = .ok (.newarray .int, 2) := by decide +kernel
theorem dX6_init_26 : decode cX6_init 26 = .ok (.putfield 18, 3) := by decide +kernel
theorem dX6_init_29 : decode cX6_init 29 = .ok (.aload_n 0, 1) := by decide +kernel
theorem dX6_init_30 : decode cX6_init 30 = .ok (.sipush 1024, 3) := by decide +kernel
theorem dX6_init_33 : decode cX6_init 33 = .ok (.newarray .int, 2) := by decide +kernel
theorem dX6_init_35 : decode cX6_init 35 = .ok (.putfield 21, 3) := by decide +kernel
theorem dX6_init_38 : decode cX6_init 38 = .ok (.aload_n 0, 1) := by decide +kernel
theorem dX6_init_39 : decode cX6_init 39 = .ok (.sipush 1024, 3) := by decide +kernel
theorem dX6_init_42 : decode cX6_init 42 = .ok (.newarray .long, 2) := by decide +kernel
theorem dX6_init_44 : decode cX6_init 44 = .ok (.putfield 24, 3) := by decide +kernel
theorem dX6_init_47 : decode cX6_init 47 = .ok (.aload_n 0, 1) := by decide +kernel
theorem dX6_init_48 : decode cX6_init 48 = .ok (.sipush 1024, 3) := by decide +kernel
theorem dX6_init_51 : decode cX6_init 51 = .ok (.newarray .long, 2) := by decide +kernel
theorem dX6_init_53 : decode cX6_init 53 = .ok (.putfield 28, 3) := by decide +kernel
theorem dX6_init_56 : decode cX6_init 56 = .ok (.aload_n 0, 1) := by decide +kernel
theorem dX6_init_57 : decode cX6_init 57 = .ok (.bipush 12, 2) := by decide +kernel
theorem dX6_init_59 : decode cX6_init 59 = .ok (.newarray .int, 2) := by decide +kernel
theorem dX6_init_61 : decode cX6_init 61 = .ok (.putfield 31, 3) := by decide +kernel
theorem dX6_init_64 : decode cX6_init 64 = .ok (.aload_n 0, 1) := by decide +kernel
theorem dX6_init_65 : decode cX6_init 65 = .ok (.bipush 10, 2) := by decide +kernel
theorem dX6_init_67 : decode cX6_init 67 = .ok (.newarray .int, 2) := by decide +kernel
theorem dX6_init_69 : decode cX6_init 69 = .ok (.putfield 34, 3) := by decide +kernel
theorem dX6_init_72 : decode cX6_init 72 = .ok (.aload_n 0, 1) := by decide +kernel
theorem dX6_init_73 : decode cX6_init 73 = .ok (.bipush 10, 2) := by decide +kernel
theorem dX6_init_75 : decode cX6_init 75 = .ok (.newarray .int, 2) := by decide +kernel
theorem dX6_init_77 : decode cX6_init 77 = .ok (.putfield 37, 3) := by decide +kernel
theorem dX6_init_80 : decode cX6_init 80 = .ok (.iconst 1, 1) := by decide +kernel
theorem dX6_init_81 : decode cX6_init 81 = .ok (.istore_n 1, 1) := by decide +kernel
theorem dX6_init_82 : decode cX6_init 82 = .ok (.iload_n 1, 1) := by decide +kernel
theorem dX6_init_83 : decode cX6_init 83 = .ok (.sipush 1024, 3) := by decide +kernel
theorem dX6_init_86 : decode cX6_init 86 = .ok (.if_icmp .ge 37, 3) := by decide +kernel
theorem dX6_init_89 : decode cX6_init 89 = .ok (.iload_n 1, 1) := by decide +kernel
theorem dX6_init_90 : decode cX6_init 90 = .ok (.invokestatic 40, 3) := by decide +kernel
theorem dX6_init_93 : decode cX6_init 93 = .ok (.istore_n 2, 1) := by decide +kernel
theorem dX6_init_94 : decode cX6_init 94 = .ok (.aload_n 0, 1) := by decide +kernel
theorem dX6_init_95 : decode cX6_init 95 = .ok (.getfield 28, 3) := by decide +kernel
theorem dX6_init_98 : decode cX6_init 98 = .ok (.iload_n 1, 1) := by decide +kernel
theorem dX6_init_99 : decode cX6_init 99 = .ok (.aload_n 0, 1) := by decide +kernel
theorem dX6_init_100 : decode cX6_init 100 = .ok (.getfield 28, 3) := by decide +kernel
theorem dX6_init_103 : decode cX6_init 103 = .ok (.iload_n 1, 1) := by decide +kernel
theorem dX6_init_104 : decode cX6_init 104 = .ok (.iload_n 1, 1) := by decide +kernel
theorem dX6_init_105 : decode cX6_init 105 = .ok (.iconst 1, 1) := by decide +kernel
theorem dX6_init_106 : decode cX6_init 106 = .ok (.isub, 1) := by decide +kernel
theorem dX6_init_107 : decode cX6_init 107 = .ok (.iand, 1) := by decide +kernel
theorem dX6_init_108 : decode cX6_init 108 = .ok (.laload, 1) := by decide +kernel
theorem dX6_init_109 : decode cX6_init 109 = .ok (.lconst 1, 1) := by decide +kernel
theorem dX6_init_110 : decode cX6_init 110 = .ok (.iload_n 2, 1) := by decide +kernel
theorem dX6_init_111 : decode cX6_init 111 = .ok (.invokestatic 46, 3) := by decide +kernel
theorem dX6_init_114 : decode cX6_init 114 = .ok (.lshl, 1) := by decide +kernel
theorem dX6_init_115 : decode cX6_init 115 = .ok (.lor, 1) := by decide +kernel
theorem dX6_init_116 : decode cX6_init 116 = .ok (.lastore, 1) := by decide +kernel
theorem dX6_init_117 : decode cX6_init 117 = .ok (.iinc 1 1, 3) := by decide +kernel
theorem dX6_init_120 : decode cX6_init 120 = .ok (.goto (-38), 3) := by decide +kernel
theorem dX6_init_123 : decode cX6_init 123 = .ok (.return_, 1) := by decide +kernel
theorem dX6_plan_0 : decode cX6_plan 0 = .ok (.aload_n 0, 1) := by decide +kernel
theorem dX6_plan_1 : decode cX6_plan 1 = .ok (.iload_n 1, 1) := by decide +kernel
theorem dX6_plan_2 : decode cX6_plan 2 = .ok (.invokevirtual 49, 3) := by decide +kernel
theorem dX6_plan_5 : decode cX6_plan 5 = .ok (.aload_n 0, 1) := by decide +kernel
theorem dX6_plan_6 : decode cX6_plan 6 = .ok (.aload_n 2, 1) := by decide +kernel
theorem dX6_plan_7 : decode cX6_plan 7 = .ok (.invokevirtual 53, 3) := by decide +kernel
theorem dX6_plan_10 : decode cX6_plan 10 = .ok (.iconst 0, 1) := by decide +kernel
theorem dX6_plan_11 : decode cX6_plan 11 = .ok (.istore_n 3, 1) := by decide +kernel
theorem dX6_plan_12 : decode cX6_plan 12 = .ok (.iload_n 3, 1) := by decide +kernel
theorem dX6_plan_13 : decode cX6_plan 13 = .ok (.aload_n 0, 1) := by decide +kernel
theorem dX6_plan_14 : decode cX6_plan 14 = .ok (.getfield 57, 3) := by decide +kernel
theorem dX6_plan_17 : decode cX6_plan 17 = .ok (.if_icmp .ge 15, 3) := by decide +kernel
theorem dX6_plan_20 : decode cX6_plan 20 = .ok (.aload_n 0, 1) := by decide +kernel
theorem dX6_plan_21 : decode cX6_plan 21 = .ok (.iload_n 3, 1) := by decide +kernel
theorem dX6_plan_22 : decode cX6_plan 22 = .ok (.aload_n 2, 1) := by decide +kernel
theorem dX6_plan_23 : decode cX6_plan 23 = .ok (.invokevirtual 61, 3) := by decide +kernel
theorem dX6_plan_26 : decode cX6_plan 26 = .ok (.iinc 3 1, 3) := by decide +kernel
theorem dX6_plan_29 : decode cX6_plan 29 = .ok (.goto (-17), 3) := by decide +kernel
theorem dX6_plan_32 : decode cX6_plan 32 = .ok (.aload_n 0, 1) := by decide +kernel
theorem dX6_plan_33 : decode cX6_plan 33 = .ok (.invokevirtual 65, 3) := by decide +kernel
theorem dX6_plan_36 : decode cX6_plan 36 = .ok (.aload_n 0, 1) := by decide +kernel
theorem dX6_plan_37 : decode cX6_plan 37 = .ok (.aload_n 0, 1) := by decide +kernel
theorem dX6_plan_38 : decode cX6_plan 38 = .ok (.getfield 24, 3) := by decide +kernel
theorem dX6_plan_41 : decode cX6_plan 41 = .ok (.iconst 1, 1) := by decide +kernel
theorem dX6_plan_42 : decode cX6_plan 42 = .ok (.aload_n 0, 1) := by decide +kernel
theorem dX6_plan_43 : decode cX6_plan 43 = .ok (.getfield 57, 3) := by decide +kernel
theorem dX6_plan_46 : decode cX6_plan 46 = .ok (.ishl, 1) := by decide +kernel
theorem dX6_plan_47 : decode cX6_plan 47 = .ok (.iconst 1, 1) := by decide +kernel
theorem dX6_plan_48 : decode cX6_plan 48 = .ok (.isub, 1) := by decide +kernel
theorem dX6_plan_49 : decode cX6_plan 49 = .ok (.laload, 1) := by decide +kernel
theorem dX6_plan_50 : decode cX6_plan 50 = .ok (.invokevirtual 68, 3) := by decide +kernel
theorem dX6_plan_53 : decode cX6_plan 53 = .ok (.aload_n 0, 1) := by decide +kernel
theorem dX6_plan_54 : decode cX6_plan 54 = .ok (.getfield 72, 3) := by decide +kernel
theorem dX6_plan_57 : decode cX6_plan 57 = .ok (.ireturn, 1) := by decide +kernel
theorem dX6_tell_0 : decode cX6_tell 0 = .ok (.aload_n 0, 1) := by decide +kernel
theorem dX6_tell_1 : decode cX6_tell 1 = .ok (.getfield 72, 3) := by decide +kernel
theorem dX6_tell_4 : decode cX6_tell 4 = .ok (.ifCond .ne 6, 3) := by decide +kernel
theorem dX6_tell_7 : decode cX6_tell 7 = .ok (.bipush (-9), 2) := by decide +kernel
theorem dX6_tell_9 : decode cX6_tell 9 = .ok (.ireturn, 1) := by decide +kernel
theorem dX6_tell_10 : decode cX6_tell 10 = .ok (.iload_n 1, 1) := by decide +kernel
theorem dX6_tell_11 : decode cX6_tell 11 = .ok (.ifCond .ne 8, 3) := by decide +kernel
theorem dX6_tell_14 : decode cX6_tell 14 = .ok (.aload_n 0, 1) := by decide +kernel
theorem dX6_tell_15 : decode cX6_tell 15 = .ok (.getfield 75, 3) := by decide +kernel
theorem dX6_tell_18 : decode cX6_tell 18 = .ok (.ireturn, 1) := by decide +kernel
theorem dX6_tell_19 : decode cX6_tell 19 = .ok (.iload_n 1, 1) := by decide +kernel
theorem dX6_tell_20 : decode cX6_tell 20 = .ok (.bipush 10, 2) := by decide +kernel
theorem dX6_tell_22 : decode cX6_tell 22 = .ok (.bipush 21, 2) := by decide +kernel
theorem dX6_tell_24 : decode cX6_tell 24 = .ok (.invokestatic 78, 3) := by decide +kernel
theorem dX6_tell_27 : decode cX6_tell 27 = .ok (.ifCond .eq 13, 3) := by decide +kernel
theorem dX6_tell_30 : decode cX6_tell 30 = .ok (.aload_n 0, 1) := by decide +kernel
theorem dX6_tell_31 : decode cX6_tell 31 = .ok (.getfield 31, 3) := by decide +kernel
theorem dX6_tell_34 : decode cX6_tell 34 = .ok (.iload_n 1, 1) := by decide +kernel
theorem dX6_tell_35 : decode cX6_tell 35 = .ok (.bipush 10, 2) := by decide +kernel
theorem dX6_tell_37 : decode cX6_tell 37 = .ok (.isub, 1) := by decide +kernel
theorem dX6_tell_38 : decode cX6_tell 38 = .ok (.iaload, 1) := by decide +kernel
theorem dX6_tell_39 : decode cX6_tell 39 = .ok (.ireturn, 1) := by decide +kernel
theorem dX6_tell_40 : decode cX6_tell 40 = .ok (.iload_n 1, 1) := by decide +kernel
theorem dX6_tell_41 : decode cX6_tell 41 = .ok (.bipush 30, 2) := by decide +kernel
theorem dX6_tell_43 : decode cX6_tell 43 = .ok (.bipush 30, 2) := by decide +kernel
theorem dX6_tell_45 : decode cX6_tell 45 = .ok (.aload_n 0, 1) := by decide +kernel
theorem dX6_tell_46 : decode cX6_tell 46 = .ok (.getfield 72, 3) := by decide +kernel
theorem dX6_tell_49 : decode cX6_tell 49 = .ok (.iadd, 1) := by decide +kernel
theorem dX6_tell_50 : decode cX6_tell 50 = .ok (.iconst 1, 1) := by decide +kernel
theorem dX6_tell_51 : decode cX6_tell 51 = .ok (.isub, 1) := by decide +kernel
theorem dX6_tell_52 : decode cX6_tell 52 = .ok (.invokestatic 78, 3) := by decide +kernel
theorem dX6_tell_55 : decode cX6_tell 55 = .ok (.ifCond .eq 13, 3) := by decide +kernel
theorem dX6_tell_58 : decode cX6_tell 58 = .ok (.aload_n 0, 1) := by decide +kernel
theorem dX6_tell_59 : decode cX6_tell 59 = .ok (.getfield 34, 3) := by decide +kernel
theorem dX6_tell_62 : decode cX6_tell 62 = .ok (.iload_n 1, 1) := by decide +kernel
theorem dX6_tell_63 : decode cX6_tell 63 = .ok (.bipush 30, 2) := by decide +kernel
theorem dX6_tell_65 : decode cX6_tell 65 = .ok (.isub, 1) := by decide +kernel
theorem dX6_tell_66 : decode cX6_tell 66 = .ok (.iaload, 1) := by decide +kernel
theorem dX6_tell_67 : decode cX6_tell 67 = .ok (.ireturn, 1) := by decide +kernel
theorem dX6_tell_68 : decode cX6_tell 68 = .ok (.iload_n 1, 1) := by decide +kernel
theorem dX6_tell_69 : decode cX6_tell 69 = .ok (.bipush 50, 2) := by decide +kernel
theorem dX6_tell_71 : decode cX6_tell 71 = .ok (.bipush 50, 2) := by decide +kernel
theorem dX6_tell_73 : decode cX6_tell 73 = .ok (.aload_n 0, 1) := by decide +kernel
theorem dX6_tell_74 : decode cX6_tell 74 = .ok (.getfield 72, 3) := by decide +kernel
theorem dX6_tell_77 : decode cX6_tell 77 = .ok (.iadd, 1) := by decide +kernel
theorem dX6_tell_78 : decode cX6_tell 78 = .ok (.iconst 1, 1) := by decide +kernel
theorem dX6_tell_79 : decode cX6_tell 79 = .ok (.isub, 1) := by decide +kernel
theorem dX6_tell_80 : decode cX6_tell 80 = .ok (.invokestatic 78, 3) := by decide +kernel
theorem dX6_tell_83 : decode cX6_tell 83 = .ok (.ifCond .eq 15, 3) := by decide +kernel
theorem dX6_tell_86 : decode cX6_tell 86 = .ok (.aload_n 0, 1) := by decide +kernel
theorem dX6_tell_87 : decode cX6_tell 87 = .ok (.getfield 37, 3) := by decide +kernel
theorem dX6_tell_90 : decode cX6_tell 90 = .ok (.iload_n 1, 1) := by decide +kernel
theorem dX6_tell_91 : decode cX6_tell 91 = .ok (.bipush 50, 2) := by decide +kernel
theorem dX6_tell_93 : decode cX6_tell 93 = .ok (.isub, 1) := by decide +kernel
theorem dX6_tell_94 : decode cX6_tell 94 = .ok (.iaload, 1) := by decide +kernel
theorem dX6_tell_95 : decode cX6_tell 95 = .ok (.goto 5, 3) := by decide +kernel
theorem dX6_tell_98 : decode cX6_tell 98 = .ok (.bipush (-9), 2) := by decide +kernel
theorem dX6_tell_100 : decode cX6_tell 100 = .ok (.ireturn, 1) := by decide +kernel
theorem dX6_rowShift_0 : decode cX6_rowShift 0 = .ok (.iconst 4, 1) := by decide +kernel
theorem dX6_rowShift_1 : decode cX6_rowShift 1 = .ok (.bipush 9, 2) := by decide +kernel
theorem dX6_rowShift_3 : decode cX6_rowShift 3 = .ok (.iload_n 0, 1) := by decide +kernel
theorem dX6_rowShift_4 : decode cX6_rowShift 4 = .ok (.isub, 1) := by decide +kernel
theorem dX6_rowShift_5 : decode cX6_rowShift 5 = .ok (.imul, 1) := by decide +kernel
theorem dX6_rowShift_6 : decode cX6_rowShift 6 = .ok (.ireturn, 1) := by decide +kernel
theorem dX6_listCourts_0 : decode cX6_listCourts 0 = .ok (.aload_n 0, 1) := by decide +kernel
theorem dX6_listCourts_1 : decode cX6_listCourts 1 = .ok (.iconst 0, 1) := by decide +kernel
theorem dX6_listCourts_2 : decode cX6_listCourts 2 = .ok (.putfield 57, 3) := by decide +kernel
theorem dX6_listCourts_5 : decode cX6_listCourts 5 = .ok (.iconst 0, 1) := by decide +kernel
theorem dX6_listCourts_6 : decode cX6_listCourts 6 = .ok (.istore_n 2, 1) := by decide +kernel
theorem dX6_listCourts_7 : decode cX6_listCourts 7 = .ok (.iload_n 2, 1) := by decide +kernel
theorem dX6_listCourts_8 : decode cX6_listCourts 8 = .ok (.bipush 12, 2) := by decide +kernel
theorem dX6_listCourts_10 : decode cX6_listCourts 10 = .ok (.if_icmp .ge 47, 3) := by decide +kernel
theorem dX6_listCourts_13 : decode cX6_listCourts 13 = .ok (.aload_n 0, 1) := by decide +kernel
theorem dX6_listCourts_14 : decode cX6_listCourts 14 = .ok (.getfield 57, 3) := by decide +kernel
theorem dX6_listCourts_17 : decode cX6_listCourts 17 = .ok (.bipush 10, 2) := by decide +kernel
theorem dX6_listCourts_19 : decode cX6_listCourts 19 = .ok (.if_icmp .ge 38, 3) := by decide +kernel
theorem dX6_listCourts_22 : decode cX6_listCourts 22 = .ok (.iload_n 1, 1) := by decide +kernel
theorem dX6_listCourts_23 : decode cX6_listCourts 23 = .ok (.iload_n 2, 1) := by decide +kernel
theorem dX6_listCourts_24 : decode cX6_listCourts 24 = .ok (.ishr, 1) := by decide +kernel
theorem dX6_listCourts_25 : decode cX6_listCourts 25 = .ok (.iconst 1, 1) := by decide +kernel
theorem dX6_listCourts_26 : decode cX6_listCourts 26 = .ok (.iand, 1) := by decide +kernel
theorem dX6_listCourts_27 : decode cX6_listCourts 27 = .ok (.iconst 1, 1) := by decide +kernel
theorem dX6_listCourts_28 : decode cX6_listCourts 28 = .ok (.if_icmp .ne 23, 3) := by decide +kernel
theorem dX6_listCourts_31 : decode cX6_listCourts 31 = .ok (.aload_n 0, 1) := by decide +kernel
theorem dX6_listCourts_32 : decode cX6_listCourts 32 = .ok (.getfield 11, 3) := by decide +kernel
theorem dX6_listCourts_35 : decode cX6_listCourts 35 = .ok (.aload_n 0, 1) := by decide +kernel
theorem dX6_listCourts_36 : decode cX6_listCourts 36 = .ok (.getfield 57, 3) := by decide +kernel
theorem dX6_listCourts_39 : decode cX6_listCourts 39 = .ok (.iload_n 2, 1) := by decide +kernel
theorem dX6_listCourts_40 : decode cX6_listCourts 40 = .ok (.iastore, 1) := by decide +kernel
theorem dX6_listCourts_41 : decode cX6_listCourts 41 = .ok (.aload_n 0, 1) := by decide +kernel
theorem dX6_listCourts_42 : decode cX6_listCourts 42 = .ok (.dup, 1) := by decide +kernel
theorem dX6_listCourts_43 : decode cX6_listCourts 43 = .ok (.getfield 57, 3) := by decide +kernel
theorem dX6_listCourts_46 : decode cX6_listCourts 46 = .ok (.iconst 1, 1) := by decide +kernel
theorem dX6_listCourts_47 : decode cX6_listCourts 47 = .ok (.iadd, 1) := by decide +kernel
theorem dX6_listCourts_48 : decode cX6_listCourts 48 = .ok (.putfield 57, 3) := by decide +kernel
theorem dX6_listCourts_51 : decode cX6_listCourts 51 = .ok (.iinc 2 1, 3) := by decide +kernel
theorem dX6_listCourts_54 : decode cX6_listCourts 54 = .ok (.goto (-47), 3) := by decide +kernel
theorem dX6_listCourts_57 : decode cX6_listCourts 57 = .ok (.return_, 1) := by decide +kernel
theorem dX6_measureSteps_0 : decode cX6_measureSteps 0 = .ok (.iconst 0, 1) := by decide +kernel
theorem dX6_measureSteps_1 : decode cX6_measureSteps 1 = .ok (.istore_n 2, 1) := by decide +kernel
theorem dX6_measureSteps_2 : decode cX6_measureSteps 2 = .ok (.iload_n 2, 1) := by decide +kernel
theorem dX6_measureSteps_3 : decode cX6_measureSteps 3 = .ok (.aload_n 0, 1) := by decide +kernel
theorem dX6_measureSteps_4 : decode cX6_measureSteps 4 = .ok (.getfield 57, 3) := by decide +kernel
theorem dX6_measureSteps_7 : decode cX6_measureSteps 7 = .ok (.if_icmp .ge 67, 3) := by decide +kernel
theorem dX6_measureSteps_10 : decode cX6_measureSteps 10 = .ok (.iconst 0, 1) := by decide +kernel
theorem dX6_measureSteps_11 : decode cX6_measureSteps 11 = .ok (.istore_n 3, 1) := by decide +kernel
theorem dX6_measureSteps_12 : decode cX6_measureSteps 12 = .ok (.iload_n 3, 1) := by decide +kernel
theorem dX6_measureSteps_13 : decode cX6_measureSteps 13 = .ok (.aload_n 0, 1) := by decide +kernel
theorem dX6_measureSteps_14 : decode cX6_measureSteps 14 = .ok (.getfield 57, 3) := by decide +kernel
theorem dX6_measureSteps_17 : decode cX6_measureSteps 17 = .ok (.if_icmp .ge 51, 3) := by decide +kernel
theorem dX6_measureSteps_20 : decode cX6_measureSteps 20 = .ok (.aload_n 1, 1) := by decide +kernel
theorem dX6_measureSteps_21 : decode cX6_measureSteps 21 = .ok (.aload_n 0, 1) := by decide +kernel
theorem dX6_measureSteps_22 : decode cX6_measureSteps 22 = .ok (.getfield 11, 3) := by decide +kernel
theorem dX6_measureSteps_25 : decode cX6_measureSteps 25 = .ok (.iload_n 2, 1) := by decide +kernel
theorem dX6_measureSteps_26 : decode cX6_measureSteps 26 = .ok (.iaload, 1) := by decide +kernel
theorem dX6_measureSteps_27 : decode cX6_measureSteps 27 = .ok (.aload_n 0, 1) := by decide +kernel
theorem dX6_measureSteps_28 : decode cX6_measureSteps 28 = .ok (.getfield 11, 3) := by decide +kernel
theorem dX6_measureSteps_31 : decode cX6_measureSteps 31 = .ok (.iload_n 3, 1) := by decide +kernel
theorem dX6_measureSteps_32 : decode cX6_measureSteps 32 = .ok (.iaload, 1) := by decide +kernel
theorem dX6_measureSteps_33 : decode cX6_measureSteps 33 = .ok (.invokevirtual 82, 3) := by decide +kernel
theorem dX6_measureSteps_36 : decode cX6_measureSteps 36 = .ok (.istore 4, 2) := by decide +kernel
theorem dX6_measureSteps_38 : decode cX6_measureSteps 38 = .ok (.aload_n 0, 1) := by decide +kernel
theorem dX6_measureSteps_39 : decode cX6_measureSteps 39 = .ok (.getfield 15, 3) := by decide +kernel
theorem dX6_measureSteps_42 : decode cX6_measureSteps 42 = .ok (.iload_n 2, 1) := by decide +kernel
theorem dX6_measureSteps_43 : decode cX6_measureSteps 43 = .ok (.bipush 10, 2) := by decide +kernel
theorem dX6_measureSteps_45 : decode cX6_measureSteps 45 = .ok (.imul, 1) := by decide +kernel
theorem dX6_measureSteps_46 : decode cX6_measureSteps 46 = .ok (.iload_n 3, 1) := by decide +kernel
theorem dX6_measureSteps_47 : decode cX6_measureSteps 47 = .ok (.iadd, 1) := by decide +kernel
theorem dX6_measureSteps_48 : decode cX6_measureSteps 48 = .ok (.iload 4, 2) := by decide +kernel
theorem dX6_measureSteps_50 : decode cX6_measureSteps 50 = .ok (.iconst (-1), 1) := by decide +kernel
theorem dX6_measureSteps_51 : decode cX6_measureSteps 51 = .ok (.if_icmp .ne 8, 3) := by decide +kernel
theorem dX6_measureSteps_54 : decode cX6_measureSteps 54 = .ok (.ldc 88, 2) := by decide +kernel
theorem dX6_measureSteps_56 : decode cX6_measureSteps 56 = .ok (.goto 5, 3) := by decide +kernel
theorem dX6_measureSteps_59 : decode cX6_measureSteps 59 = .ok (.iload 4, 2) := by decide +kernel
theorem dX6_measureSteps_61 : decode cX6_measureSteps 61 = .ok (.iastore, 1) := by decide +kernel
theorem dX6_measureSteps_62 : decode cX6_measureSteps 62 = .ok (.iinc 3 1, 3) := by decide +kernel
theorem dX6_measureSteps_65 : decode cX6_measureSteps 65 = .ok (.goto (-53), 3) := by decide +kernel
theorem dX6_measureSteps_68 : decode cX6_measureSteps 68 = .ok (.iinc 2 1, 3) := by decide +kernel
theorem dX6_measureSteps_71 : decode cX6_measureSteps 71 = .ok (.goto (-69), 3) := by decide +kernel
theorem dX6_measureSteps_74 : decode cX6_measureSteps 74 = .ok (.return_, 1) := by decide +kernel
theorem dX6_measureTours_0 : decode cX6_measureTours 0 = .ok (.aload_n 0, 1) := by decide +kernel
theorem dX6_measureTours_1 : decode cX6_measureTours 1 = .ok (.getfield 21, 3) := by decide +kernel
theorem dX6_measureTours_4 : decode cX6_measureTours 4 = .ok (.iconst 1, 1) := by decide +kernel
theorem dX6_measureTours_5 : decode cX6_measureTours 5 = .ok (.iload_n 1, 1) := by decide +kernel
theorem dX6_measureTours_6 : decode cX6_measureTours 6 = .ok (.ishl, 1) := by decide +kernel
theorem dX6_measureTours_7 : decode cX6_measureTours 7 = .ok (.iconst 0, 1) := by decide +kernel
theorem dX6_measureTours_8 : decode cX6_measureTours 8 = .ok (.iastore, 1) := by decide +kernel
theorem dX6_measureTours_9 : decode cX6_measureTours 9 = .ok (.aload_n 0, 1) := by decide +kernel
theorem dX6_measureTours_10 : decode cX6_measureTours 10 = .ok (.getfield 57, 3) := by decide +kernel
theorem dX6_measureTours_13 : decode cX6_measureTours 13 = .ok (.iconst 1, 1) := by decide +kernel
theorem dX6_measureTours_14 : decode cX6_measureTours 14 = .ok (.isub, 1) := by decide +kernel
theorem dX6_measureTours_15 : decode cX6_measureTours 15 = .ok (.iload_n 1, 1) := by decide +kernel
theorem dX6_measureTours_16 : decode cX6_measureTours 16 = .ok (.isub, 1) := by decide +kernel
theorem dX6_measureTours_17 : decode cX6_measureTours 17 = .ok (.istore_n 3, 1) := by decide +kernel
theorem dX6_measureTours_18 : decode cX6_measureTours 18 = .ok (.iconst 1, 1) := by decide +kernel
theorem dX6_measureTours_19 : decode cX6_measureTours 19 = .ok (.istore 4, 2) := by decide +kernel
theorem dX6_measureTours_21 : decode cX6_measureTours 21 = .ok (.iload 4, 2) := by decide +kernel
theorem dX6_measureTours_23 : decode cX6_measureTours 23 = .ok (.iconst 1, 1) := by decide +kernel
theorem dX6_measureTours_24 : decode cX6_measureTours 24 = .ok (.iload_n 3, 1) := by decide +kernel
theorem dX6_measureTours_25 : decode cX6_measureTours 25 = .ok (.ishl, 1) := by decide +kernel
theorem dX6_measureTours_26 : decode cX6_measureTours 26 = .ok (.if_icmp .ge 55, 3) := by decide +kernel
theorem dX6_measureTours_29 : decode cX6_measureTours 29 = .ok (.iload 4, 2) := by decide +kernel
theorem dX6_measureTours_31 : decode cX6_measureTours 31 = .ok (.iconst 1, 1) := by decide +kernel
theorem dX6_measureTours_32 : decode cX6_measureTours 32 = .ok (.ishl, 1) := by decide +kernel
theorem dX6_measureTours_33 : decode cX6_measureTours 33 = .ok (.iconst 1, 1) := by decide +kernel
theorem dX6_measureTours_34 : decode cX6_measureTours 34 = .ok (.ior, 1) := by decide +kernel
theorem dX6_measureTours_35 : decode cX6_measureTours 35 = .ok (.iload_n 1, 1) := by decide +kernel
theorem dX6_measureTours_36 : decode cX6_measureTours 36 = .ok (.ishl, 1) := by decide +kernel
theorem dX6_measureTours_37 : decode cX6_measureTours 37 = .ok (.istore 5, 2) := by decide +kernel
theorem dX6_measureTours_39 : decode cX6_measureTours 39 = .ok (.aload_n 0, 1) := by decide +kernel
theorem dX6_measureTours_40 : decode cX6_measureTours 40 = .ok (.iload_n 1, 1) := by decide +kernel
theorem dX6_measureTours_41 : decode cX6_measureTours 41 = .ok (.iload_n 3, 1) := by decide +kernel
theorem dX6_measureTours_42 : decode cX6_measureTours 42 = .ok (.iload 4, 2) := by decide +kernel
theorem dX6_measureTours_44 : decode cX6_measureTours 44 = .ok (.invokevirtual 89, 3) := by decide +kernel
theorem dX6_measureTours_47 : decode cX6_measureTours 47 = .ok (.istore 6, 2) := by decide +kernel
theorem dX6_measureTours_49 : decode cX6_measureTours 49 = .ok (.aload_n 0, 1) := by decide +kernel
theorem dX6_measureTours_50 : decode cX6_measureTours 50 = .ok (.getfield 21, 3) := by decide +kernel
theorem dX6_measureTours_53 : decode cX6_measureTours 53 = .ok (.iload 5, 2) := by decide +kernel
theorem dX6_measureTours_55 : decode cX6_measureTours 55 = .ok (.iload 6, 2) := by decide +kernel
theorem dX6_measureTours_57 : decode cX6_measureTours 57 = .ok (.aload_n 0, 1) := by decide +kernel
theorem dX6_measureTours_58 : decode cX6_measureTours 58 = .ok (.iload 5, 2) := by decide +kernel
theorem dX6_measureTours_60 : decode cX6_measureTours 60 = .ok (.aload_n 2, 1) := by decide +kernel
theorem dX6_measureTours_61 : decode cX6_measureTours 61 = .ok (.invokevirtual 93, 3) := by decide +kernel
theorem dX6_measureTours_64 : decode cX6_measureTours 64 = .ok (.if_icmp .gt 8, 3) := by decide +kernel
theorem dX6_measureTours_67 : decode cX6_measureTours 67 = .ok (.iload 6, 2) := by decide +kernel
theorem dX6_measureTours_69 : decode cX6_measureTours 69 = .ok (.goto 5, 3) := by decide +kernel
theorem dX6_measureTours_72 : decode cX6_measureTours 72 = .ok (.ldc 88, 2) := by decide +kernel
theorem dX6_measureTours_74 : decode cX6_measureTours 74 = .ok (.iastore, 1) := by decide +kernel
theorem dX6_measureTours_75 : decode cX6_measureTours 75 = .ok (.iinc 4 1, 3) := by decide +kernel
theorem dX6_measureTours_78 : decode cX6_measureTours 78 = .ok (.goto (-57), 3) := by decide +kernel
theorem dX6_measureTours_81 : decode cX6_measureTours 81 = .ok (.return_, 1) := by decide +kernel
theorem dX6_shortestTour_0 : decode cX6_shortestTour 0 = .ok (.ldc 88, 2) := by decide +kernel
theorem dX6_shortestTour_2 : decode cX6_shortestTour 2 = .ok (.istore 4, 2) := by decide +kernel
theorem dX6_shortestTour_4 : decode cX6_shortestTour 4 = .ok (.iconst 0, 1) := by decide +kernel
theorem dX6_shortestTour_5 : decode cX6_shortestTour 5 = .ok (.istore 5, 2) := by decide +kernel
theorem dX6_shortestTour_7 : decode cX6_shortestTour 7 = .ok (.iload 5, 2) := by decide +kernel
theorem dX6_shortestTour_9 : decode cX6_shortestTour 9 = .ok (.iload_n 2, 1) := by decide +kernel
theorem dX6_shortestTour_10 : decode cX6_shortestTour 10 = .ok (.if_icmp .ge 77, 3) := by decide +kernel
theorem dX6_shortestTour_13 : decode cX6_shortestTour 13 = .ok (.iload_n 3, 1) := by decide +kernel
theorem dX6_shortestTour_14 : decode cX6_shortestTour 14 = .ok (.iload 5, 2) := by decide +kernel
theorem dX6_shortestTour_16 : decode cX6_shortestTour 16 = .ok (.ishr, 1) := by decide +kernel
theorem dX6_shortestTour_17 : decode cX6_shortestTour 17 = .ok (.iconst 1, 1) := by decide +kernel
theorem dX6_shortestTour_18 : decode cX6_shortestTour 18 = .ok (.iand, 1) := by decide +kernel
theorem dX6_shortestTour_19 : decode cX6_shortestTour 19 = .ok (.iconst 1, 1) := by decide +kernel
theorem dX6_shortestTour_20 : decode cX6_shortestTour 20 = .ok (.if_icmp .ne 61, 3) := by decide +kernel
theorem dX6_shortestTour_23 : decode cX6_shortestTour 23 = .ok (.aload_n 0, 1) := by decide +kernel
theorem dX6_shortestTour_24 : decode cX6_shortestTour 24 = .ok (.iload_n 1, 1) := by decide +kernel
theorem dX6_shortestTour_25 : decode cX6_shortestTour 25 = .ok (.iload_n 2, 1) := by decide +kernel
theorem dX6_shortestTour_26 : decode cX6_shortestTour 26 = .ok (.iload_n 3, 1) := by decide +kernel
theorem dX6_shortestTour_27 : decode cX6_shortestTour 27 = .ok (.iconst 1, 1) := by decide +kernel
theorem dX6_shortestTour_28 : decode cX6_shortestTour 28 = .ok (.iload 5, 2) := by decide +kernel
theorem dX6_shortestTour_30 : decode cX6_shortestTour 30 = .ok (.ishl, 1) := by decide +kernel
theorem dX6_shortestTour_31 : decode cX6_shortestTour 31 = .ok (.iconst (-1), 1) := by decide +kernel
theorem dX6_shortestTour_32 : decode cX6_shortestTour 32 = .ok (.ixor, 1) := by decide +kernel
theorem dX6_shortestTour_33 : decode cX6_shortestTour 33 = .ok (.iand, 1) := by decide +kernel
theorem dX6_shortestTour_34 : decode cX6_shortestTour 34 = .ok (.iload 5, 2) := by decide +kernel
theorem dX6_shortestTour_36 : decode cX6_shortestTour 36 = .ok (.invokevirtual 97, 3) := by decide +kernel
theorem dX6_shortestTour_39 : decode cX6_shortestTour 39 = .ok (.istore 6, 2) := by decide +kernel
theorem dX6_shortestTour_41 : decode cX6_shortestTour 41 = .ok (.aload_n 0, 1) := by decide +kernel
theorem dX6_shortestTour_42 : decode cX6_shortestTour 42 = .ok (.getfield 18, 3) := by decide +kernel
theorem dX6_shortestTour_45 : decode cX6_shortestTour 45 = .ok (.iload_n 3, 1) := by decide +kernel
theorem dX6_shortestTour_46 : decode cX6_shortestTour 46 = .ok (.bipush 9, 2) := by decide +kernel
theorem dX6_shortestTour_48 : decode cX6_shortestTour 48 = .ok (.imul, 1) := by decide +kernel
theorem dX6_shortestTour_49 : decode cX6_shortestTour 49 = .ok (.iload 5, 2) := by decide +kernel
theorem dX6_shortestTour_51 : decode cX6_shortestTour 51 = .ok (.iadd, 1) := by decide +kernel
theorem dX6_shortestTour_52 : decode cX6_shortestTour 52 = .ok (.iload 6, 2) := by decide +kernel
theorem dX6_shortestTour_54 : decode cX6_shortestTour 54 = .ok (.iastore, 1) := by decide +kernel
theorem dX6_shortestTour_55 : decode cX6_shortestTour 55 = .ok (.iload 4, 2) := by decide +kernel
theorem dX6_shortestTour_57 : decode cX6_shortestTour 57 = .ok (.iload 6, 2) := by decide +kernel
theorem dX6_shortestTour_59 : decode cX6_shortestTour 59 = .ok (.aload_n 0, 1) := by decide +kernel
theorem dX6_shortestTour_60 : decode cX6_shortestTour 60 = .ok (.getfield 15, 3) := by decide +kernel
theorem dX6_shortestTour_63 : decode cX6_shortestTour 63 = .ok (.iload_n 1, 1) := by decide +kernel
theorem dX6_shortestTour_64 : decode cX6_shortestTour 64 = .ok (.iconst 1, 1) := by decide +kernel
theorem dX6_shortestTour_65 : decode cX6_shortestTour 65 = .ok (.iadd, 1) := by decide +kernel
theorem dX6_shortestTour_66 : decode cX6_shortestTour 66 = .ok (.iload 5, 2) := by decide +kernel
theorem dX6_shortestTour_68 : decode cX6_shortestTour 68 = .ok (.iadd, 1) := by decide +kernel
theorem dX6_shortestTour_69 : decode cX6_shortestTour 69 = .ok (.bipush 10, 2) := by decide +kernel
theorem dX6_shortestTour_71 : decode cX6_shortestTour 71 = .ok (.imul, 1) := by decide +kernel
theorem dX6_shortestTour_72 : decode cX6_shortestTour 72 = .ok (.iload_n 1, 1) := by decide +kernel
theorem dX6_shortestTour_73 : decode cX6_shortestTour 73 = .ok (.iadd, 1) := by decide +kernel
theorem dX6_shortestTour_74 : decode cX6_shortestTour 74 = .ok (.iaload, 1) := by decide +kernel
theorem dX6_shortestTour_75 : decode cX6_shortestTour 75 = .ok (.iadd, 1) := by decide +kernel
theorem dX6_shortestTour_76 : decode cX6_shortestTour 76 = .ok (.invokestatic 101, 3) := by decide +kernel
theorem dX6_shortestTour_79 : decode cX6_shortestTour 79 = .ok (.istore 4, 2) := by decide +kernel
theorem dX6_shortestTour_81 : decode cX6_shortestTour 81 = .ok (.iinc 5 1, 3) := by decide +kernel
theorem dX6_shortestTour_84 : decode cX6_shortestTour 84 = .ok (.goto (-77), 3) := by decide +kernel
theorem dX6_shortestTour_87 : decode cX6_shortestTour 87 = .ok (.iload 4, 2) := by decide +kernel
theorem dX6_shortestTour_89 : decode cX6_shortestTour 89 = .ok (.ireturn, 1) := by decide +kernel
theorem dX6_shortestPath_0 : decode cX6_shortestPath 0 = .ok (.iload_n 1, 1) := by decide +kernel
theorem dX6_shortestPath_1 : decode cX6_shortestPath 1 = .ok (.iconst 1, 1) := by decide +kernel
theorem dX6_shortestPath_2 : decode cX6_shortestPath 2 = .ok (.iadd, 1) := by decide +kernel
theorem dX6_shortestPath_3 : decode cX6_shortestPath 3 = .ok (.iload 4, 2) := by decide +kernel
theorem dX6_shortestPath_5 : decode cX6_shortestPath 5 = .ok (.iadd, 1) := by decide +kernel
theorem dX6_shortestPath_6 : decode cX6_shortestPath 6 = .ok (.istore 5, 2) := by decide +kernel
theorem dX6_shortestPath_8 : decode cX6_shortestPath 8 = .ok (.iload_n 3, 1) := by decide +kernel
theorem dX6_shortestPath_9 : decode cX6_shortestPath 9 = .ok (.ifCond .ne 16, 3) := by decide +kernel
theorem dX6_shortestPath_12 : decode cX6_shortestPath 12 = .ok (.aload_n 0, 1) := by decide +kernel
theorem dX6_shortestPath_13 : decode cX6_shortestPath 13 = .ok (.getfield 15, 3) := by decide +kernel
theorem dX6_shortestPath_16 : decode cX6_shortestPath 16 = .ok (.iload_n 1, 1) := by decide +kernel
theorem dX6_shortestPath_17 : decode cX6_shortestPath 17 = .ok (.bipush 10, 2) := by decide +kernel
theorem dX6_shortestPath_19 : decode cX6_shortestPath 19 = .ok (.imul, 1) := by decide +kernel
theorem dX6_shortestPath_20 : decode cX6_shortestPath 20 = .ok (.iload 5, 2) := by decide +kernel
theorem dX6_shortestPath_22 : decode cX6_shortestPath 22 = .ok (.iadd, 1) := by decide +kernel
theorem dX6_shortestPath_23 : decode cX6_shortestPath 23 = .ok (.iaload, 1) := by decide +kernel
theorem dX6_shortestPath_24 : decode cX6_shortestPath 24 = .ok (.ireturn, 1) := by decide +kernel
theorem dX6_shortestPath_25 : decode cX6_shortestPath 25 = .ok (.ldc 88, 2) := by decide +kernel
theorem dX6_shortestPath_27 : decode cX6_shortestPath 27 = .ok (.istore 6, 2) := by decide +kernel
theorem dX6_shortestPath_29 : decode cX6_shortestPath 29 = .ok (.iconst 0, 1) := by decide +kernel
theorem dX6_shortestPath_30 : decode cX6_shortestPath 30 = .ok (.istore 7, 2) := by decide +kernel
theorem dX6_shortestPath_32 : decode cX6_shortestPath 32 = .ok (.iload 7, 2) := by decide +kernel
theorem dX6_shortestPath_34 : decode cX6_shortestPath 34 = .ok (.iload_n 2, 1) := by decide +kernel
theorem dX6_shortestPath_35 : decode cX6_shortestPath 35 = .ok (.if_icmp .ge 60, 3) := by decide +kernel
theorem dX6_shortestPath_38 : decode cX6_shortestPath 38 = .ok (.iload_n 3, 1) := by decide +kernel
theorem dX6_shortestPath_39 : decode cX6_shortestPath 39 = .ok (.iload 7, 2) := by decide +kernel
theorem dX6_shortestPath_41 : decode cX6_shortestPath 41 = .ok (.ishr, 1) := by decide +kernel
theorem dX6_shortestPath_42 : decode cX6_shortestPath 42 = .ok (.iconst 1, 1) := by decide +kernel
theorem dX6_shortestPath_43 : decode cX6_shortestPath 43 = .ok (.iand, 1) := by decide +kernel
theorem dX6_shortestPath_44 : decode cX6_shortestPath 44 = .ok (.iconst 1, 1) := by decide +kernel
theorem dX6_shortestPath_45 : decode cX6_shortestPath 45 = .ok (.if_icmp .ne 44, 3) := by decide +kernel
theorem dX6_shortestPath_48 : decode cX6_shortestPath 48 = .ok (.aload_n 0, 1) := by decide +kernel
theorem dX6_shortestPath_49 : decode cX6_shortestPath 49 = .ok (.getfield 18, 3) := by decide +kernel
theorem dX6_shortestPath_52 : decode cX6_shortestPath 52 = .ok (.iload_n 3, 1) := by decide +kernel
theorem dX6_shortestPath_53 : decode cX6_shortestPath 53 = .ok (.bipush 9, 2) := by decide +kernel
theorem dX6_shortestPath_55 : decode cX6_shortestPath 55 = .ok (.imul, 1) := by decide +kernel
theorem dX6_shortestPath_56 : decode cX6_shortestPath 56 = .ok (.iload 7, 2) := by decide +kernel
theorem dX6_shortestPath_58 : decode cX6_shortestPath 58 = .ok (.iadd, 1) := by decide +kernel
theorem dX6_shortestPath_59 : decode cX6_shortestPath 59 = .ok (.iaload, 1) := by decide +kernel
theorem dX6_shortestPath_60 : decode cX6_shortestPath 60 = .ok (.aload_n 0, 1) := by decide +kernel
theorem dX6_shortestPath_61 : decode cX6_shortestPath 61 = .ok (.getfield 15, 3) := by decide +kernel
theorem dX6_shortestPath_64 : decode cX6_shortestPath 64 = .ok (.iload_n 1, 1) := by decide +kernel
theorem dX6_shortestPath_65 : decode cX6_shortestPath 65 = .ok (.iconst 1, 1) := by decide +kernel
theorem dX6_shortestPath_66 : decode cX6_shortestPath 66 = .ok (.iadd, 1) := by decide +kernel
theorem dX6_shortestPath_67 : decode cX6_shortestPath 67 = .ok (.iload 7, 2) := by decide +kernel
theorem dX6_shortestPath_69 : decode cX6_shortestPath 69 = .ok (.iadd, 1) := by decide +kernel
theorem dX6_shortestPath_70 : decode cX6_shortestPath 70 = .ok (.bipush 10, 2) := by decide +kernel
theorem dX6_shortestPath_72 : decode cX6_shortestPath 72 = .ok (.imul, 1) := by decide +kernel
theorem dX6_shortestPath_73 : decode cX6_shortestPath 73 = .ok (.iload 5, 2) := by decide +kernel
theorem dX6_shortestPath_75 : decode cX6_shortestPath 75 = .ok (.iadd, 1) := by decide +kernel
theorem dX6_shortestPath_76 : decode cX6_shortestPath 76 = .ok (.iaload, 1) := by decide +kernel
theorem dX6_shortestPath_77 : decode cX6_shortestPath 77 = .ok (.iadd, 1) := by decide +kernel
theorem dX6_shortestPath_78 : decode cX6_shortestPath 78 = .ok (.istore 8, 2) := by decide +kernel
theorem dX6_shortestPath_80 : decode cX6_shortestPath 80 = .ok (.iload 6, 2) := by decide +kernel
theorem dX6_shortestPath_82 : decode cX6_shortestPath 82 = .ok (.iload 8, 2) := by decide +kernel
theorem dX6_shortestPath_84 : decode cX6_shortestPath 84 = .ok (.invokestatic 101, 3) := by decide +kernel
theorem dX6_shortestPath_87 : decode cX6_shortestPath 87 = .ok (.istore 6, 2) := by decide +kernel
theorem dX6_shortestPath_89 : decode cX6_shortestPath 89 = .ok (.iinc 7 1, 3) := by decide +kernel
theorem dX6_shortestPath_92 : decode cX6_shortestPath 92 = .ok (.goto (-60), 3) := by decide +kernel
theorem dX6_shortestPath_95 : decode cX6_shortestPath 95 = .ok (.iload 6, 2) := by decide +kernel
theorem dX6_shortestPath_97 : decode cX6_shortestPath 97 = .ok (.ireturn, 1) := by decide +kernel
theorem dX6_leastWithin_0 : decode cX6_leastWithin 0 = .ok (.sipush 999, 3) := by decide +kernel
theorem dX6_leastWithin_3 : decode cX6_leastWithin 3 = .ok (.istore_n 3, 1) := by decide +kernel
theorem dX6_leastWithin_4 : decode cX6_leastWithin 4 = .ok (.iconst 0, 1) := by decide +kernel
theorem dX6_leastWithin_5 : decode cX6_leastWithin 5 = .ok (.istore 4, 2) := by decide +kernel
theorem dX6_leastWithin_7 : decode cX6_leastWithin 7 = .ok (.iload 4, 2) := by decide +kernel
theorem dX6_leastWithin_9 : decode cX6_leastWithin 9 = .ok (.aload_n 0, 1) := by decide +kernel
theorem dX6_leastWithin_10 : decode cX6_leastWithin 10 = .ok (.getfield 57, 3) := by decide +kernel
theorem dX6_leastWithin_13 : decode cX6_leastWithin 13 = .ok (.if_icmp .ge 35, 3) := by decide +kernel
theorem dX6_leastWithin_16 : decode cX6_leastWithin 16 = .ok (.iload_n 1, 1) := by decide +kernel
theorem dX6_leastWithin_17 : decode cX6_leastWithin 17 = .ok (.iload 4, 2) := by decide +kernel
theorem dX6_leastWithin_19 : decode cX6_leastWithin 19 = .ok (.ishr, 1) := by decide +kernel
theorem dX6_leastWithin_20 : decode cX6_leastWithin 20 = .ok (.iconst 1, 1) := by decide +kernel
theorem dX6_leastWithin_21 : decode cX6_leastWithin 21 = .ok (.iand, 1) := by decide +kernel
theorem dX6_leastWithin_22 : decode cX6_leastWithin 22 = .ok (.iconst 1, 1) := by decide +kernel
theorem dX6_leastWithin_23 : decode cX6_leastWithin 23 = .ok (.if_icmp .ne 19, 3) := by decide +kernel
theorem dX6_leastWithin_26 : decode cX6_leastWithin 26 = .ok (.iload_n 3, 1) := by decide +kernel
theorem dX6_leastWithin_27 : decode cX6_leastWithin 27 = .ok (.aload_n 2, 1) := by decide +kernel
theorem dX6_leastWithin_28 : decode cX6_leastWithin 28 = .ok (.aload_n 0, 1) := by decide +kernel
theorem dX6_leastWithin_29 : decode cX6_leastWithin 29 = .ok (.getfield 11, 3) := by decide +kernel
theorem dX6_leastWithin_32 : decode cX6_leastWithin 32 = .ok (.iload 4, 2) := by decide +kernel
theorem dX6_leastWithin_34 : decode cX6_leastWithin 34 = .ok (.iaload, 1) := by decide +kernel
theorem dX6_leastWithin_35 : decode cX6_leastWithin 35 = .ok (.invokevirtual 106, 3) := by decide +kernel
theorem dX6_leastWithin_38 : decode cX6_leastWithin 38 = .ok (.invokestatic 101, 3) := by decide +kernel
theorem dX6_leastWithin_41 : decode cX6_leastWithin 41 = .ok (.istore_n 3, 1) := by decide +kernel
theorem dX6_leastWithin_42 : decode cX6_leastWithin 42 = .ok (.iinc 4 1, 3) := by decide +kernel
theorem dX6_leastWithin_45 : decode cX6_leastWithin 45 = .ok (.goto (-38), 3) := by decide +kernel
theorem dX6_leastWithin_48 : decode cX6_leastWithin 48 = .ok (.iload_n 3, 1) := by decide +kernel
theorem dX6_leastWithin_49 : decode cX6_leastWithin 49 = .ok (.ireturn, 1) := by decide +kernel
theorem dX6_joinParts_0 : decode cX6_joinParts 0 = .ok (.iconst 1, 1) := by decide +kernel
theorem dX6_joinParts_1 : decode cX6_joinParts 1 = .ok (.istore_n 1, 1) := by decide +kernel
theorem dX6_joinParts_2 : decode cX6_joinParts 2 = .ok (.iload_n 1, 1) := by decide +kernel
theorem dX6_joinParts_3 : decode cX6_joinParts 3 = .ok (.iconst 1, 1) := by decide +kernel
theorem dX6_joinParts_4 : decode cX6_joinParts 4 = .ok (.aload_n 0, 1) := by decide +kernel
theorem dX6_joinParts_5 : decode cX6_joinParts 5 = .ok (.getfield 57, 3) := by decide +kernel
theorem dX6_joinParts_8 : decode cX6_joinParts 8 = .ok (.ishl, 1) := by decide +kernel
theorem dX6_joinParts_9 : decode cX6_joinParts 9 = .ok (.if_icmp .ge 20, 3) := by decide +kernel
theorem dX6_joinParts_12 : decode cX6_joinParts 12 = .ok (.aload_n 0, 1) := by decide +kernel
theorem dX6_joinParts_13 : decode cX6_joinParts 13 = .ok (.getfield 24, 3) := by decide +kernel
theorem dX6_joinParts_16 : decode cX6_joinParts 16 = .ok (.iload_n 1, 1) := by decide +kernel
theorem dX6_joinParts_17 : decode cX6_joinParts 17 = .ok (.aload_n 0, 1) := by decide +kernel
theorem dX6_joinParts_18 : decode cX6_joinParts 18 = .ok (.iload_n 1, 1) := by decide +kernel
theorem dX6_joinParts_19 : decode cX6_joinParts 19 = .ok (.invokevirtual 109, 3) := by decide +kernel
theorem dX6_joinParts_22 : decode cX6_joinParts 22 = .ok (.lastore, 1) := by decide +kernel
theorem dX6_joinParts_23 : decode cX6_joinParts 23 = .ok (.iinc 1 1, 3) := by decide +kernel
theorem dX6_joinParts_26 : decode cX6_joinParts 26 = .ok (.goto (-24), 3) := by decide +kernel
theorem dX6_joinParts_29 : decode cX6_joinParts 29 = .ok (.return_, 1) := by decide +kernel
theorem dX6_bestPlan_0 : decode cX6_bestPlan 0 = .ok (.iload_n 1, 1) := by decide +kernel
theorem dX6_bestPlan_1 : decode cX6_bestPlan 1 = .ok (.iload_n 1, 1) := by decide +kernel
theorem dX6_bestPlan_2 : decode cX6_bestPlan 2 = .ok (.iconst 1, 1) := by decide +kernel
theorem dX6_bestPlan_3 : decode cX6_bestPlan 3 = .ok (.isub, 1) := by decide +kernel
theorem dX6_bestPlan_4 : decode cX6_bestPlan 4 = .ok (.iand, 1) := by decide +kernel
theorem dX6_bestPlan_5 : decode cX6_bestPlan 5 = .ok (.istore_n 2, 1) := by decide +kernel
theorem dX6_bestPlan_6 : decode cX6_bestPlan 6 = .ok (.ldc2_w 115, 3) := by decide +kernel
theorem dX6_bestPlan_9 : decode cX6_bestPlan 9 = .ok (.lstore_n 3, 1) := by decide +kernel
theorem dX6_bestPlan_10 : decode cX6_bestPlan 10 = .ok (.iload_n 2, 1) := by decide +kernel
theorem dX6_bestPlan_11 : decode cX6_bestPlan 11 = .ok (.istore 5, 2) := by decide +kernel
theorem dX6_bestPlan_13 : decode cX6_bestPlan 13 = .ok (.iconst 0, 1) := by decide +kernel
theorem dX6_bestPlan_14 : decode cX6_bestPlan 14 = .ok (.istore 6, 2) := by decide +kernel
theorem dX6_bestPlan_16 : decode cX6_bestPlan 16 = .ok (.iload 6, 2) := by decide +kernel
theorem dX6_bestPlan_18 : decode cX6_bestPlan 18 = .ok (.sipush 1024, 3) := by decide +kernel
theorem dX6_bestPlan_21 : decode cX6_bestPlan 21 = .ok (.if_icmp .ge 84, 3) := by decide +kernel
theorem dX6_bestPlan_24 : decode cX6_bestPlan 24 = .ok (.iload 5, 2) := by decide +kernel
theorem dX6_bestPlan_26 : decode cX6_bestPlan 26 = .ok (.ifCond .lt 79, 3) := by decide +kernel
theorem dX6_bestPlan_29 : decode cX6_bestPlan 29 = .ok (.aload_n 0, 1) := by decide +kernel
theorem dX6_bestPlan_30 : decode cX6_bestPlan 30 = .ok (.getfield 21, 3) := by decide +kernel
theorem dX6_bestPlan_33 : decode cX6_bestPlan 33 = .ok (.iload_n 1, 1) := by decide +kernel
theorem dX6_bestPlan_34 : decode cX6_bestPlan 34 = .ok (.iload 5, 2) := by decide +kernel
theorem dX6_bestPlan_36 : decode cX6_bestPlan 36 = .ok (.ixor, 1) := by decide +kernel
theorem dX6_bestPlan_37 : decode cX6_bestPlan 37 = .ok (.iaload, 1) := by decide +kernel
theorem dX6_bestPlan_38 : decode cX6_bestPlan 38 = .ok (.istore 7, 2) := by decide +kernel
theorem dX6_bestPlan_40 : decode cX6_bestPlan 40 = .ok (.iload 7, 2) := by decide +kernel
theorem dX6_bestPlan_42 : decode cX6_bestPlan 42 = .ok (.ldc 88, 2) := by decide +kernel
theorem dX6_bestPlan_44 : decode cX6_bestPlan 44 = .ok (.if_icmp .eq 38, 3) := by decide +kernel
theorem dX6_bestPlan_47 : decode cX6_bestPlan 47 = .ok (.aload_n 0, 1) := by decide +kernel
theorem dX6_bestPlan_48 : decode cX6_bestPlan 48 = .ok (.getfield 24, 3) := by decide +kernel
theorem dX6_bestPlan_51 : decode cX6_bestPlan 51 = .ok (.iload 5, 2) := by decide +kernel
theorem dX6_bestPlan_53 : decode cX6_bestPlan 53 = .ok (.laload, 1) := by decide +kernel
theorem dX6_bestPlan_54 : decode cX6_bestPlan 54 = .ok (.aload_n 0, 1) := by decide +kernel
theorem dX6_bestPlan_55 : decode cX6_bestPlan 55 = .ok (.getfield 28, 3) := by decide +kernel
theorem dX6_bestPlan_58 : decode cX6_bestPlan 58 = .ok (.iload 5, 2) := by decide +kernel
theorem dX6_bestPlan_60 : decode cX6_bestPlan 60 = .ok (.laload, 1) := by decide +kernel
theorem dX6_bestPlan_61 : decode cX6_bestPlan 61 = .ok (.ladd, 1) := by decide +kernel
theorem dX6_bestPlan_62 : decode cX6_bestPlan 62 = .ok (.ldc2_w 117, 3) := by decide +kernel
theorem dX6_bestPlan_65 : decode cX6_bestPlan 65 = .ok (.ladd, 1) := by decide +kernel
theorem dX6_bestPlan_66 : decode cX6_bestPlan 66 = .ok (.iload 7, 2) := by decide +kernel
theorem dX6_bestPlan_68 : decode cX6_bestPlan 68 = .ok (.i2l, 1) := by decide +kernel
theorem dX6_bestPlan_69 : decode cX6_bestPlan 69 = .ok (.bipush 40, 2) := by decide +kernel
theorem dX6_bestPlan_71 : decode cX6_bestPlan 71 = .ok (.lshl, 1) := by decide +kernel
theorem dX6_bestPlan_72 : decode cX6_bestPlan 72 = .ok (.ladd, 1) := by decide +kernel
theorem dX6_bestPlan_73 : decode cX6_bestPlan 73 = .ok (.lstore 8, 2) := by decide +kernel
theorem dX6_bestPlan_75 : decode cX6_bestPlan 75 = .ok (.lload_n 3, 1) := by decide +kernel
theorem dX6_bestPlan_76 : decode cX6_bestPlan 76 = .ok (.lload 8, 2) := by decide +kernel
theorem dX6_bestPlan_78 : decode cX6_bestPlan 78 = .ok (.invokestatic 119, 3) := by decide +kernel
theorem dX6_bestPlan_81 : decode cX6_bestPlan 81 = .ok (.lstore_n 3, 1) := by decide +kernel
theorem dX6_bestPlan_82 : decode cX6_bestPlan 82 = .ok (.iload 5, 2) := by decide +kernel
theorem dX6_bestPlan_84 : decode cX6_bestPlan 84 = .ok (.ifCond .ne 7, 3) := by decide +kernel
theorem dX6_bestPlan_87 : decode cX6_bestPlan 87 = .ok (.iconst (-1), 1) := by decide +kernel
theorem dX6_bestPlan_88 : decode cX6_bestPlan 88 = .ok (.goto 9, 3) := by decide +kernel
theorem dX6_bestPlan_91 : decode cX6_bestPlan 91 = .ok (.iload 5, 2) := by decide +kernel
theorem dX6_bestPlan_93 : decode cX6_bestPlan 93 = .ok (.iconst 1, 1) := by decide +kernel
theorem dX6_bestPlan_94 : decode cX6_bestPlan 94 = .ok (.isub, 1) := by decide +kernel
theorem dX6_bestPlan_95 : decode cX6_bestPlan 95 = .ok (.iload_n 2, 1) := by decide +kernel
theorem dX6_bestPlan_96 : decode cX6_bestPlan 96 = .ok (.iand, 1) := by decide +kernel
theorem dX6_bestPlan_97 : decode cX6_bestPlan 97 = .ok (.istore 5, 2) := by decide +kernel
theorem dX6_bestPlan_99 : decode cX6_bestPlan 99 = .ok (.iinc 6 1, 3) := by decide +kernel
theorem dX6_bestPlan_102 : decode cX6_bestPlan 102 = .ok (.goto (-86), 3) := by decide +kernel
theorem dX6_bestPlan_105 : decode cX6_bestPlan 105 = .ok (.lload_n 3, 1) := by decide +kernel
theorem dX6_bestPlan_106 : decode cX6_bestPlan 106 = .ok (.lreturn, 1) := by decide +kernel
theorem dX6_keepPlan_0 : decode cX6_keepPlan 0 = .ok (.aload_n 0, 1) := by decide +kernel
theorem dX6_keepPlan_1 : decode cX6_keepPlan 1 = .ok (.lload_n 1, 1) := by decide +kernel
theorem dX6_keepPlan_2 : decode cX6_keepPlan 2 = .ok (.bipush 54, 2) := by decide +kernel
theorem dX6_keepPlan_4 : decode cX6_keepPlan 4 = .ok (.lshr, 1) := by decide +kernel
theorem dX6_keepPlan_5 : decode cX6_keepPlan 5 = .ok (.l2i, 1) := by decide +kernel
theorem dX6_keepPlan_6 : decode cX6_keepPlan 6 = .ok (.putfield 72, 3) := by decide +kernel
theorem dX6_keepPlan_9 : decode cX6_keepPlan 9 = .ok (.aload_n 0, 1) := by decide +kernel
theorem dX6_keepPlan_10 : decode cX6_keepPlan 10 = .ok (.lload_n 1, 1) := by decide +kernel
theorem dX6_keepPlan_11 : decode cX6_keepPlan 11 = .ok (.bipush 40, 2) := by decide +kernel
theorem dX6_keepPlan_13 : decode cX6_keepPlan 13 = .ok (.lshr, 1) := by decide +kernel
theorem dX6_keepPlan_14 : decode cX6_keepPlan 14 = .ok (.l2i, 1) := by decide +kernel
theorem dX6_keepPlan_15 : decode cX6_keepPlan 15 = .ok (.sipush 16383, 3) := by decide +kernel
theorem dX6_keepPlan_18 : decode cX6_keepPlan 18 = .ok (.iand, 1) := by decide +kernel
theorem dX6_keepPlan_19 : decode cX6_keepPlan 19 = .ok (.putfield 75, 3) := by decide +kernel
theorem dX6_keepPlan_22 : decode cX6_keepPlan 22 = .ok (.aload_n 0, 1) := by decide +kernel
theorem dX6_keepPlan_23 : decode cX6_keepPlan 23 = .ok (.getfield 31, 3) := by decide +kernel
theorem dX6_keepPlan_26 : decode cX6_keepPlan 26 = .ok (.iconst (-1), 1) := by decide +kernel
theorem dX6_keepPlan_27 : decode cX6_keepPlan 27 = .ok (.invokestatic 122, 3) := by decide +kernel
theorem dX6_keepPlan_30 : decode cX6_keepPlan 30 = .ok (.aload_n 0, 1) := by decide +kernel
theorem dX6_keepPlan_31 : decode cX6_keepPlan 31 = .ok (.getfield 37, 3) := by decide +kernel
theorem dX6_keepPlan_34 : decode cX6_keepPlan 34 = .ok (.iconst 0, 1) := by decide +kernel
theorem dX6_keepPlan_35 : decode cX6_keepPlan 35 = .ok (.invokestatic 122, 3) := by decide +kernel
theorem dX6_keepPlan_38 : decode cX6_keepPlan 38 = .ok (.iconst 0, 1) := by decide +kernel
theorem dX6_keepPlan_39 : decode cX6_keepPlan 39 = .ok (.istore_n 3, 1) := by decide +kernel
theorem dX6_keepPlan_40 : decode cX6_keepPlan 40 = .ok (.iload_n 3, 1) := by decide +kernel
theorem dX6_keepPlan_41 : decode cX6_keepPlan 41 = .ok (.aload_n 0, 1) := by decide +kernel
theorem dX6_keepPlan_42 : decode cX6_keepPlan 42 = .ok (.getfield 72, 3) := by decide +kernel
theorem dX6_keepPlan_45 : decode cX6_keepPlan 45 = .ok (.if_icmp .ge 32, 3) := by decide +kernel
theorem dX6_keepPlan_48 : decode cX6_keepPlan 48 = .ok (.iload_n 3, 1) := by decide +kernel
theorem dX6_keepPlan_49 : decode cX6_keepPlan 49 = .ok (.bipush 10, 2) := by decide +kernel
theorem dX6_keepPlan_51 : decode cX6_keepPlan 51 = .ok (.if_icmp .ge 26, 3) := by decide +kernel
theorem dX6_keepPlan_54 : decode cX6_keepPlan 54 = .ok (.aload_n 0, 1) := by decide +kernel
theorem dX6_keepPlan_55 : decode cX6_keepPlan 55 = .ok (.getfield 34, 3) := by decide +kernel
theorem dX6_keepPlan_58 : decode cX6_keepPlan 58 = .ok (.iload_n 3, 1) := by decide +kernel
theorem dX6_keepPlan_59 : decode cX6_keepPlan 59 = .ok (.aload_n 0, 1) := by decide +kernel
theorem dX6_keepPlan_60 : decode cX6_keepPlan 60 = .ok (.getfield 21, 3) := by decide +kernel
theorem dX6_keepPlan_63 : decode cX6_keepPlan 63 = .ok (.aload_n 0, 1) := by decide +kernel
theorem dX6_keepPlan_64 : decode cX6_keepPlan 64 = .ok (.iload_n 3, 1) := by decide +kernel
theorem dX6_keepPlan_65 : decode cX6_keepPlan 65 = .ok (.lload_n 1, 1) := by decide +kernel
theorem dX6_keepPlan_66 : decode cX6_keepPlan 66 = .ok (.invokevirtual 128, 3) := by decide +kernel
theorem dX6_keepPlan_69 : decode cX6_keepPlan 69 = .ok (.iaload, 1) := by decide +kernel
theorem dX6_keepPlan_70 : decode cX6_keepPlan 70 = .ok (.iastore, 1) := by decide +kernel
theorem dX6_keepPlan_71 : decode cX6_keepPlan 71 = .ok (.iinc 3 1, 3) := by decide +kernel
theorem dX6_keepPlan_74 : decode cX6_keepPlan 74 = .ok (.goto (-34), 3) := by decide +kernel
theorem dX6_keepPlan_77 : decode cX6_keepPlan 77 = .ok (.return_, 1) := by decide +kernel
theorem dX6_keepPartOf_0 : decode cX6_keepPartOf 0 = .ok (.iconst 0, 1) := by decide +kernel
theorem dX6_keepPartOf_1 : decode cX6_keepPartOf 1 = .ok (.istore 4, 2) := by decide +kernel
theorem dX6_keepPartOf_3 : decode cX6_keepPartOf 3 = .ok (.iconst 0, 1) := by decide +kernel
theorem dX6_keepPartOf_4 : decode cX6_keepPartOf 4 = .ok (.istore 5, 2) := by decide +kernel
theorem dX6_keepPartOf_6 : decode cX6_keepPartOf 6 = .ok (.iload 5, 2) := by decide +kernel
theorem dX6_keepPartOf_8 : decode cX6_keepPartOf 8 = .ok (.aload_n 0, 1) := by decide +kernel
theorem dX6_keepPartOf_9 : decode cX6_keepPartOf 9 = .ok (.getfield 57, 3) := by decide +kernel
theorem dX6_keepPartOf_12 : decode cX6_keepPartOf 12 = .ok (.if_icmp .ge 68, 3) := by decide +kernel
theorem dX6_keepPartOf_15 : decode cX6_keepPartOf 15 = .ok (.lload_n 2, 1) := by decide +kernel
theorem dX6_keepPartOf_16 : decode cX6_keepPartOf 16 = .ok (.iload 5, 2) := by decide +kernel
theorem dX6_keepPartOf_18 : decode cX6_keepPartOf 18 = .ok (.invokestatic 46, 3) := by decide +kernel
theorem dX6_keepPartOf_21 : decode cX6_keepPartOf 21 = .ok (.lshr, 1) := by decide +kernel
theorem dX6_keepPartOf_22 : decode cX6_keepPartOf 22 = .ok (.l2i, 1) := by decide +kernel
theorem dX6_keepPartOf_23 : decode cX6_keepPartOf 23 = .ok (.bipush 15, 2) := by decide +kernel
theorem dX6_keepPartOf_25 : decode cX6_keepPartOf 25 = .ok (.iand, 1) := by decide +kernel
theorem dX6_keepPartOf_26 : decode cX6_keepPartOf 26 = .ok (.istore 6, 2) := by decide +kernel
theorem dX6_keepPartOf_28 : decode cX6_keepPartOf 28 = .ok (.iload 6, 2) := by decide +kernel
theorem dX6_keepPartOf_30 : decode cX6_keepPartOf 30 = .ok (.iload_n 1, 1) := by decide +kernel
theorem dX6_keepPartOf_31 : decode cX6_keepPartOf 31 = .ok (.if_icmp .ne 43, 3) := by decide +kernel
theorem dX6_keepPartOf_34 : decode cX6_keepPartOf 34 = .ok (.iload 4, 2) := by decide +kernel
theorem dX6_keepPartOf_36 : decode cX6_keepPartOf 36 = .ok (.iconst 1, 1) := by decide +kernel
theorem dX6_keepPartOf_37 : decode cX6_keepPartOf 37 = .ok (.iload 5, 2) := by decide +kernel
theorem dX6_keepPartOf_39 : decode cX6_keepPartOf 39 = .ok (.ishl, 1) := by decide +kernel
theorem dX6_keepPartOf_40 : decode cX6_keepPartOf 40 = .ok (.ior, 1) := by decide +kernel
theorem dX6_keepPartOf_41 : decode cX6_keepPartOf 41 = .ok (.istore 4, 2) := by decide +kernel
theorem dX6_keepPartOf_43 : decode cX6_keepPartOf 43 = .ok (.aload_n 0, 1) := by decide +kernel
theorem dX6_keepPartOf_44 : decode cX6_keepPartOf 44 = .ok (.getfield 31, 3) := by decide +kernel
theorem dX6_keepPartOf_47 : decode cX6_keepPartOf 47 = .ok (.aload_n 0, 1) := by decide +kernel
theorem dX6_keepPartOf_48 : decode cX6_keepPartOf 48 = .ok (.getfield 11, 3) := by decide +kernel
theorem dX6_keepPartOf_51 : decode cX6_keepPartOf 51 = .ok (.iload 5, 2) := by decide +kernel
theorem dX6_keepPartOf_53 : decode cX6_keepPartOf 53 = .ok (.iaload, 1) := by decide +kernel
theorem dX6_keepPartOf_54 : decode cX6_keepPartOf 54 = .ok (.iload_n 1, 1) := by decide +kernel
theorem dX6_keepPartOf_55 : decode cX6_keepPartOf 55 = .ok (.iastore, 1) := by decide +kernel
theorem dX6_keepPartOf_56 : decode cX6_keepPartOf 56 = .ok (.aload_n 0, 1) := by decide +kernel
theorem dX6_keepPartOf_57 : decode cX6_keepPartOf 57 = .ok (.getfield 37, 3) := by decide +kernel
theorem dX6_keepPartOf_60 : decode cX6_keepPartOf 60 = .ok (.iload_n 1, 1) := by decide +kernel
theorem dX6_keepPartOf_61 : decode cX6_keepPartOf 61 = .ok (.dup2, 1) := by decide +kernel
theorem dX6_keepPartOf_62 : decode cX6_keepPartOf 62 = .ok (.iaload, 1) := by decide +kernel
theorem dX6_keepPartOf_63 : decode cX6_keepPartOf 63 = .ok (.iconst 1, 1) := by decide +kernel
theorem dX6_keepPartOf_64 : decode cX6_keepPartOf 64 = .ok (.aload_n 0, 1) := by decide +kernel
theorem dX6_keepPartOf_65 : decode cX6_keepPartOf 65 = .ok (.getfield 11, 3) := by decide +kernel
theorem dX6_keepPartOf_68 : decode cX6_keepPartOf 68 = .ok (.iload 5, 2) := by decide +kernel
theorem dX6_keepPartOf_70 : decode cX6_keepPartOf 70 = .ok (.iaload, 1) := by decide +kernel
theorem dX6_keepPartOf_71 : decode cX6_keepPartOf 71 = .ok (.ishl, 1) := by decide +kernel
theorem dX6_keepPartOf_72 : decode cX6_keepPartOf 72 = .ok (.ior, 1) := by decide +kernel
theorem dX6_keepPartOf_73 : decode cX6_keepPartOf 73 = .ok (.iastore, 1) := by decide +kernel
theorem dX6_keepPartOf_74 : decode cX6_keepPartOf 74 = .ok (.iinc 5 1, 3) := by decide +kernel

theorem dX11_may_16 : decode cX11_may 16 = .ok (.iload_n 1, 1) := by decide +kernel
theorem dX11_may_17 : decode cX11_may 17 = .ok (.aaload, 1) := by decide +kernel
theorem dX11_may_18 : decode cX11_may 18 = .ok (.getfield 134, 3) := by decide +kernel
theorem dX11_may_21 : decode cX11_may 21 = .ok (.iload_n 2, 1) := by decide +kernel
theorem dX11_may_22 : decode cX11_may 22 = .ok (.iload_n 3, 1) := by decide +kernel
theorem dX11_may_23 : decode cX11_may 23 = .ok (.iload 4, 2) := by decide +kernel
theorem dX11_may_25 : decode cX11_may 25 = .ok (.invokevirtual 147, 3) := by decide +kernel
theorem dX11_may_28 : decode cX11_may 28 = .ok (.ifCond .eq 7, 3) := by decide +kernel
theorem dX11_may_31 : decode cX11_may 31 = .ok (.iconst 1, 1) := by decide +kernel
theorem dX11_may_32 : decode cX11_may 32 = .ok (.goto 4, 3) := by decide +kernel
theorem dX11_may_35 : decode cX11_may 35 = .ok (.iconst 0, 1) := by decide +kernel
theorem dX11_may_36 : decode cX11_may 36 = .ok (.ireturn, 1) := by decide +kernel
theorem dX11_house_0 : decode cX11_house 0 = .ok (.iload_n 1, 1) := by decide +kernel
theorem dX11_house_1 : decode cX11_house 1 = .ok (.invokestatic 92, 3) := by decide +kernel
theorem dX11_house_4 : decode cX11_house 4 = .ok (.ifCond .eq 16, 3) := by decide +kernel
theorem dX11_house_7 : decode cX11_house 7 = .ok (.iload_n 2, 1) := by decide +kernel
theorem dX11_house_8 : decode cX11_house 8 = .ok (.sipush 1500, 3) := by decide +kernel
theorem dX11_house_11 : decode cX11_house 11 = .ok (.sipush 1799, 3) := by decide +kernel
theorem dX11_house_14 : decode cX11_house 14 = .ok (.invokestatic 95, 3) := by decide +kernel
theorem dX11_house_17 : decode cX11_house 17 = .ok (.ifCond .ne 6, 3) := by decide +kernel
theorem dX11_house_20 : decode cX11_house 20 = .ok (.bipush (-2), 2) := by decide +kernel
theorem dX11_house_22 : decode cX11_house 22 = .ok (.ireturn, 1) := by decide +kernel
theorem dX11_house_23 : decode cX11_house 23 = .ok (.aload_n 0, 1) := by decide +kernel
theorem dX11_house_24 : decode cX11_house 24 = .ok (.getfield 48, 3) := by decide +kernel
theorem dX11_house_27 : decode cX11_house 27 = .ok (.iload_n 1, 1) := by decide +kernel
theorem dX11_house_28 : decode cX11_house 28 = .ok (.iload_n 2, 1) := by decide +kernel
theorem dX11_house_29 : decode cX11_house 29 = .ok (.invokevirtual 151, 3) := by decide +kernel
theorem dX11_house_32 : decode cX11_house 32 = .ok (.ireturn, 1) := by decide +kernel
theorem dX11_purse_0 : decode cX11_purse 0 = .ok (.aload_n 0, 1) := by decide +kernel
theorem dX11_purse_1 : decode cX11_purse 1 = .ok (.getfield 48, 3) := by decide +kernel
theorem dX11_purse_4 : decode cX11_purse 4 = .ok (.iload_n 1, 1) := by decide +kernel
theorem dX11_purse_5 : decode cX11_purse 5 = .ok (.invokevirtual 154, 3) := by decide +kernel
theorem dX11_purse_8 : decode cX11_purse 8 = .ok (.astore_n 3, 1) := by decide +kernel
theorem dX11_purse_9 : decode cX11_purse 9 = .ok (.aload_n 3, 1) := by decide +kernel
theorem dX11_purse_10 : decode cX11_purse 10 = .ok (.ifnull 24, 3) := by decide +kernel
theorem dX11_purse_13 : decode cX11_purse 13 = .ok (.iload_n 2, 1) := by decide +kernel
theorem dX11_purse_14 : decode cX11_purse 14 = .ok (.iconst 1, 1) := by decide +kernel
theorem dX11_purse_15 : decode cX11_purse 15 = .ok (.ldc 158, 2) := by decide +kernel
theorem dX11_purse_17 : decode cX11_purse 17 = .ok (.invokestatic 95, 3) := by decide +kernel
theorem dX11_purse_20 : decode cX11_purse 20 = .ok (.ifCond .eq 14, 3) := by decide +kernel
theorem dX11_purse_23 : decode cX11_purse 23 = .ok (.aload_n 3, 1) := by decide +kernel
theorem dX11_purse_24 : decode cX11_purse 24 = .ok (.getfield 159, 3) := by decide +kernel
theorem dX11_purse_27 : decode cX11_purse 27 = .ok (.iload_n 2, 1) := by decide +kernel
theorem dX11_purse_28 : decode cX11_purse 28 = .ok (.iadd, 1) := by decide +kernel
theorem dX11_purse_29 : decode cX11_purse 29 = .ok (.ldc 165, 2) := by decide +kernel
theorem dX11_purse_31 : decode cX11_purse 31 = .ok (.if_icmp .le 6, 3) := by decide +kernel
theorem dX11_purse_34 : decode cX11_purse 34 = .ok (.bipush (-2), 2) := by decide +kernel
theorem dX11_purse_36 : decode cX11_purse 36 = .ok (.ireturn, 1) := by decide +kernel
theorem dX11_purse_37 : decode cX11_purse 37 = .ok (.aload_n 3, 1) := by decide +kernel
theorem dX11_purse_38 : decode cX11_purse 38 = .ok (.dup, 1) := by decide +kernel
theorem dX11_purse_39 : decode cX11_purse 39 = .ok (.getfield 159, 3) := by decide +kernel
theorem dX11_purse_42 : decode cX11_purse 42 = .ok (.iload_n 2, 1) := by decide +kernel
theorem dX11_purse_43 : decode cX11_purse 43 = .ok (.iadd, 1) := by decide +kernel
theorem dX11_purse_44 : decode cX11_purse 44 = .ok (.putfield 159, 3) := by decide +kernel
theorem dX11_purse_47 : decode cX11_purse 47 = .ok (.aload_n 3, 1) := by decide +kernel
theorem dX11_purse_48 : decode cX11_purse 48 = .ok (.getfield 159, 3) := by decide +kernel
theorem dX11_purse_51 : decode cX11_purse 51 = .ok (.ireturn, 1) := by decide +kernel
theorem dX11_would_0 : decode cX11_would 0 = .ok (.aload_n 0, 1) := by decide +kernel
theorem dX11_would_1 : decode cX11_would 1 = .ok (.getfield 48, 3) := by decide +kernel
theorem dX11_would_4 : decode cX11_would 4 = .ok (.iload_n 1, 1) := by decide +kernel
theorem dX11_would_5 : decode cX11_would 5 = .ok (.invokevirtual 154, 3) := by decide +kernel
theorem dX11_would_8 : decode cX11_would 8 = .ok (.astore_n 3, 1) := by decide +kernel
theorem dX11_would_9 : decode cX11_would 9 = .ok (.aload_n 3, 1) := by decide +kernel
theorem dX11_would_10 : decode cX11_would 10 = .ok (.ifnull 12, 3) := by decide +kernel
theorem dX11_would_13 : decode cX11_would 13 = .ok (.iload_n 2, 1) := by decide +kernel
theorem dX11_would_14 : decode cX11_would 14 = .ok (.iconst 0, 1) := by decide +kernel
theorem dX11_would_15 : decode cX11_would 15 = .ok (.iconst 2, 1) := by decide +kernel
theorem dX11_would_16 : decode cX11_would 16 = .ok (.invokestatic 95, 3) := by decide +kernel
theorem dX11_would_19 : decode cX11_would 19 = .ok (.ifCond .ne 6, 3) := by decide +kernel
theorem dX11_would_22 : decode cX11_would 22 = .ok (.bipush (-2), 2) := by decide +kernel
theorem dX11_would_24 : decode cX11_would 24 = .ok (.ireturn, 1) := by decide +kernel
theorem dX11_would_25 : decode cX11_would 25 = .ok (.aload_n 3, 1) := by decide +kernel
theorem dX11_would_26 : decode cX11_would 26 = .ok (.getfield 166, 3) := by decide +kernel
theorem dX11_would_29 : decode cX11_would 29 = .ok (.istore 4, 2) := by decide +kernel
theorem dX11_would_31 : decode cX11_would 31 = .ok (.aload_n 3, 1) := by decide +kernel
theorem dX11_would_32 : decode cX11_would 32 = .ok (.iload_n 2, 1) := by decide +kernel
theorem dX11_would_33 : decode cX11_would 33 = .ok (.putfield 166, 3) := by decide +kernel
theorem dX11_would_36 : decode cX11_would 36 = .ok (.iload 4, 2) := by decide +kernel
theorem dX11_would_38 : decode cX11_would 38 = .ok (.ireturn, 1) := by decide +kernel
theorem dX11_fill_0 : decode cX11_fill 0 = .ok (.iload_n 1, 1) := by decide +kernel
theorem dX11_fill_1 : decode cX11_fill 1 = .ok (.invokestatic 92, 3) := by decide +kernel
theorem dX11_fill_4 : decode cX11_fill 4 = .ok (.ifCond .ne 6, 3) := by decide +kernel
theorem dX11_fill_7 : decode cX11_fill 7 = .ok (.bipush (-2), 2) := by decide +kernel
theorem dX11_fill_9 : decode cX11_fill 9 = .ok (.ireturn, 1) := by decide +kernel
theorem dX11_fill_10 : decode cX11_fill 10 = .ok (.aload_n 0, 1) := by decide +kernel
theorem dX11_fill_11 : decode cX11_fill 11 = .ok (.getfield 41, 3) := by decide +kernel
theorem dX11_fill_14 : decode cX11_fill 14 = .ok (.iload_n 1, 1) := by decide +kernel
theorem dX11_fill_15 : decode cX11_fill 15 = .ok (.aaload, 1) := by decide +kernel
theorem dX11_fill_16 : decode cX11_fill 16 = .ok (.iload_n 2, 1) := by decide +kernel
theorem dX11_fill_17 : decode cX11_fill 17 = .ok (.invokevirtual 169, 3) := by decide +kernel
theorem dX11_fill_20 : decode cX11_fill 20 = .ok (.istore_n 3, 1) := by decide +kernel
theorem dX11_fill_21 : decode cX11_fill 21 = .ok (.iload_n 3, 1) := by decide +kernel
theorem dX11_fill_22 : decode cX11_fill 22 = .ok (.iconst (-1), 1) := by decide +kernel
theorem dX11_fill_23 : decode cX11_fill 23 = .ok (.if_icmp .ne 8, 3) := by decide +kernel
theorem dX11_fill_26 : decode cX11_fill 26 = .ok (.bipush (-2), 2) := by decide +kernel
theorem dX11_fill_28 : decode cX11_fill 28 = .ok (.goto 18, 3) := by decide +kernel
theorem dX11_fill_31 : decode cX11_fill 31 = .ok (.aload_n 0, 1) := by decide +kernel
theorem dX11_fill_32 : decode cX11_fill 32 = .ok (.getfield 48, 3) := by decide +kernel
theorem dX11_fill_35 : decode cX11_fill 35 = .ok (.iload_n 1, 1) := by decide +kernel
theorem dX11_fill_36 : decode cX11_fill 36 = .ok (.aload_n 0, 1) := by decide +kernel
theorem dX11_fill_37 : decode cX11_fill 37 = .ok (.getfield 41, 3) := by decide +kernel
theorem dX11_fill_40 : decode cX11_fill 40 = .ok (.iload_n 1, 1) := by decide +kernel
theorem dX11_fill_41 : decode cX11_fill 41 = .ok (.aaload, 1) := by decide +kernel
theorem dX11_fill_42 : decode cX11_fill 42 = .ok (.iload_n 3, 1) := by decide +kernel
theorem dX11_fill_43 : decode cX11_fill 43 = .ok (.invokevirtual 172, 3) := by decide +kernel
theorem dX11_fill_46 : decode cX11_fill 46 = .ok (.ireturn, 1) := by decide +kernel
theorem dX11_year_0 : decode cX11_year 0 = .ok (.iload_n 1, 1) := by decide +kernel
theorem dX11_year_1 : decode cX11_year 1 = .ok (.invokestatic 92, 3) := by decide +kernel
theorem dX11_year_4 : decode cX11_year 4 = .ok (.ifCond .eq 17, 3) := by decide +kernel
theorem dX11_year_7 : decode cX11_year 7 = .ok (.aload_n 0, 1) := by decide +kernel
theorem dX11_year_8 : decode cX11_year 8 = .ok (.getfield 41, 3) := by decide +kernel
theorem dX11_year_11 : decode cX11_year 11 = .ok (.iload_n 1, 1) := by decide +kernel
theorem dX11_year_12 : decode cX11_year 12 = .ok (.aaload, 1) := by decide +kernel
theorem dX11_year_13 : decode cX11_year 13 = .ok (.iload_n 2, 1) := by decide +kernel
theorem dX11_year_14 : decode cX11_year 14 = .ok (.iload_n 3, 1) := by decide +kernel
theorem dX11_year_15 : decode cX11_year 15 = .ok (.invokevirtual 176, 3) := by decide +kernel
theorem dX11_year_18 : decode cX11_year 18 = .ok (.goto 5, 3) := by decide +kernel
theorem dX11_year_21 : decode cX11_year 21 = .ok (.bipush (-9), 2) := by decide +kernel
theorem dX11_year_23 : decode cX11_year 23 = .ok (.ireturn, 1) := by decide +kernel
theorem dX11_about_0 : decode cX11_about 0 = .ok (.aload_n 0, 1) := by decide +kernel
theorem dX11_about_1 : decode cX11_about 1 = .ok (.getfield 48, 3) := by decide +kernel
theorem dX11_about_4 : decode cX11_about 4 = .ok (.iload_n 1, 1) := by decide +kernel
theorem dX11_about_5 : decode cX11_about 5 = .ok (.invokevirtual 154, 3) := by decide +kernel
theorem dX11_about_8 : decode cX11_about 8 = .ok (.astore_n 3, 1) := by decide +kernel
theorem dX11_about_9 : decode cX11_about 9 = .ok (.aload_n 3, 1) := by decide +kernel
theorem dX11_about_10 : decode cX11_about 10 = .ok (.ifnonnull 7, 3) := by decide +kernel
theorem dX11_about_13 : decode cX11_about 13 = .ok (.iconst (-1), 1) := by decide +kernel
theorem dX11_about_14 : decode cX11_about 14 = .ok (.goto 8, 3) := by decide +kernel
theorem dX11_about_17 : decode cX11_about 17 = .ok (.aload_n 3, 1) := by decide +kernel
theorem dX11_about_18 : decode cX11_about 18 = .ok (.iload_n 2, 1) := by decide +kernel
theorem dX11_about_19 : decode cX11_about 19 = .ok (.invokevirtual 179, 3) := by decide +kernel
theorem dX11_about_22 : decode cX11_about 22 = .ok (.ireturn, 1) := by decide +kernel
theorem dX11_charge_0 : decode cX11_charge 0 = .ok (.iload_n 1, 1) := by decide +kernel
theorem dX11_charge_1 : decode cX11_charge 1 = .ok (.iload_n 2, 1) := by decide +kernel
theorem dX11_charge_2 : decode cX11_charge 2 = .ok (.iload_n 3, 1) := by decide +kernel
theorem dX11_charge_3 : decode cX11_charge 3 = .ok (.invokestatic 144, 3) := by decide +kernel
theorem dX11_charge_6 : decode cX11_charge 6 = .ok (.ifCond .ne 6, 3) := by decide +kernel
theorem dX11_charge_9 : decode cX11_charge 9 = .ok (.bipush (-2), 2) := by decide +kernel
theorem dX11_charge_11 : decode cX11_charge 11 = .ok (.ireturn, 1) := by decide +kernel
theorem dX11_charge_12 : decode cX11_charge 12 = .ok (.aload_n 0, 1) := by decide +kernel
theorem dX11_charge_13 : decode cX11_charge 13 = .ok (.getfield 55, 3) := by decide +kernel
theorem dX11_charge_16 : decode cX11_charge 16 = .ok (.invokevirtual 180, 3) := by decide +kernel
theorem dX11_charge_19 : decode cX11_charge 19 = .ok (.ifCond .eq 6, 3) := by decide +kernel
theorem dX11_charge_22 : decode cX11_charge 22 = .ok (.bipush (-3), 2) := by decide +kernel
theorem dX11_charge_24 : decode cX11_charge 24 = .ok (.ireturn, 1) := by decide +kernel
theorem dX11_charge_25 : decode cX11_charge 25 = .ok (.aload_n 0, 1) := by decide +kernel
theorem dX11_charge_26 : decode cX11_charge 26 = .ok (.getfield 55, 3) := by decide +kernel
theorem dX11_charge_29 : decode cX11_charge 29 = .ok (.new 184, 3) := by decide +kernel
theorem dX11_charge_32 : decode cX11_charge 32 = .ok (.dup, 1) := by decide +kernel
theorem dX11_charge_33 : decode cX11_charge 33 = .ok (.iload_n 1, 1) := by decide +kernel
theorem dX11_charge_34 : decode cX11_charge 34 = .ok (.iload_n 2, 1) := by decide +kernel
theorem dX11_charge_35 : decode cX11_charge 35 = .ok (.iload_n 3, 1) := by decide +kernel
theorem dX11_charge_36 : decode cX11_charge 36 = .ok (.invokespecial 186, 3) := by decide +kernel
theorem dX11_charge_39 : decode cX11_charge 39 = .ok (.aload_n 0, 1) := by decide +kernel
theorem dX11_charge_40 : decode cX11_charge 40 = .ok (.getfield 41, 3) := by decide +kernel
theorem dX11_charge_43 : decode cX11_charge 43 = .ok (.iload 4, 2) := by decide +kernel
theorem dX11_charge_45 : decode cX11_charge 45 = .ok (.invokevirtual 188, 3) := by decide +kernel
theorem dX11_charge_48 : decode cX11_charge 48 = .ok (.ireturn, 1) := by decide +kernel
theorem dX11_charged_0 : decode cX11_charged 0 = .ok (.aload_n 0, 1) := by decide +kernel
theorem dX11_charged_1 : decode cX11_charged 1 = .ok (.getfield 55, 3) := by decide +kernel
theorem dX11_charged_4 : decode cX11_charged 4 = .ok (.iload_n 1, 1) := by decide +kernel
theorem dX11_charged_5 : decode cX11_charged 5 = .ok (.invokevirtual 192, 3) := by decide +kernel
theorem dX11_charged_8 : decode cX11_charged 8 = .ok (.astore_n 3, 1) := by decide +kernel
theorem dX11_charged_9 : decode cX11_charged 9 = .ok (.aload_n 3, 1) := by decide +kernel
theorem dX11_charged_10 : decode cX11_charged 10 = .ok (.ifnonnull 7, 3) := by decide +kernel
theorem dX11_charged_13 : decode cX11_charged 13 = .ok (.iconst (-1), 1) := by decide +kernel
theorem dX11_charged_14 : decode cX11_charged 14 = .ok (.goto 8, 3) := by decide +kernel
theorem dX11_charged_17 : decode cX11_charged 17 = .ok (.aload_n 3, 1) := by decide +kernel
theorem dX11_charged_18 : decode cX11_charged 18 = .ok (.iload_n 2, 1) := by decide +kernel
theorem dX11_charged_19 : decode cX11_charged 19 = .ok (.invokevirtual 195, 3) := by decide +kernel
theorem dX11_charged_22 : decode cX11_charged 22 = .ok (.ireturn, 1) := by decide +kernel
theorem dX11_morning_0 : decode cX11_morning 0 = .ok (.iconst 0, 1) := by decide +kernel
theorem dX11_morning_1 : decode cX11_morning 1 = .ok (.istore_n 1, 1) := by decide +kernel
theorem dX11_morning_2 : decode cX11_morning 2 = .ok (.iload_n 1, 1) := by decide +kernel
theorem dX11_morning_3 : decode cX11_morning 3 = .ok (.iconst 4, 1) := by decide +kernel
theorem dX11_morning_4 : decode cX11_morning 4 = .ok (.if_icmp .ge 19, 3) := by decide +kernel
theorem dX11_morning_7 : decode cX11_morning 7 = .ok (.aload_n 0, 1) := by decide +kernel
theorem dX11_morning_8 : decode cX11_morning 8 = .ok (.getfield 41, 3) := by decide +kernel
theorem dX11_morning_11 : decode cX11_morning 11 = .ok (.iload_n 1, 1) := by decide +kernel
theorem dX11_morning_12 : decode cX11_morning 12 = .ok (.aaload, 1) := by decide +kernel
theorem dX11_morning_13 : decode cX11_morning 13 = .ok (.iconst 0, 1) := by decide +kernel
theorem dX11_morning_14 : decode cX11_morning 14 = .ok (.putfield 196, 3) := by decide +kernel
theorem dX11_morning_17 : decode cX11_morning 17 = .ok (.iinc 1 1, 3) := by decide +kernel
theorem dX11_morning_20 : decode cX11_morning 20 = .ok (.goto (-18), 3) := by decide +kernel
theorem dX11_morning_23 : decode cX11_morning 23 = .ok (.aload_n 0, 1) := by decide +kernel
theorem dX11_morning_24 : decode cX11_morning 24 = .ok (.getfield 55, 3) := by decide +kernel
theorem dX11_morning_27 : decode cX11_morning 27 = .ok (.invokevirtual 199, 3) := by decide +kernel
theorem dX11_morning_30 : decode cX11_morning 30 = .ok (.ireturn, 1) := by decide +kernel
theorem dX11_flee_0 : decode cX11_flee 0 = .ok (.aload_n 0, 1) := by decide +kernel
theorem dX11_flee_1 : decode cX11_flee 1 = .ok (.getfield 62, 3) := by decide +kernel
theorem dX11_flee_4 : decode cX11_flee 4 = .ok (.aload_n 0, 1) := by decide +kernel
theorem dX11_flee_5 : decode cX11_flee 5 = .ok (.getfield 10, 3) := by decide +kernel
theorem dX11_flee_8 : decode cX11_flee 8 = .ok (.aload_n 0, 1) := by decide +kernel
theorem dX11_flee_9 : decode cX11_flee 9 = .ok (.getfield 19, 3) := by decide +kernel
theorem dX11_flee_12 : decode cX11_flee 12 = .ok (.invokevirtual 202, 3) := by decide +kernel
theorem dX11_flee_15 : decode cX11_flee 15 = .ok (.ifCond .eq 22, 3) := by decide +kernel
theorem dX11_flee_18 : decode cX11_flee 18 = .ok (.aload_n 0, 1) := by decide +kernel
theorem dX11_flee_19 : decode cX11_flee 19 = .ok (.getfield 62, 3) := by decide +kernel
theorem dX11_flee_22 : decode cX11_flee 22 = .ok (.aload_n 0, 1) := by decide +kernel
theorem dX11_flee_23 : decode cX11_flee 23 = .ok (.getfield 19, 3) := by decide +kernel
theorem dX11_flee_26 : decode cX11_flee 26 = .ok (.aload_n 0, 1) := by decide +kernel
theorem dX11_flee_27 : decode cX11_flee 27 = .ok (.getfield 41, 3) := by decide +kernel
theorem dX11_flee_30 : decode cX11_flee 30 = .ok (.iload_n 1, 1) := by decide +kernel
theorem dX11_flee_31 : decode cX11_flee 31 = .ok (.invokevirtual 205, 3) := by decide +kernel
theorem dX11_flee_34 : decode cX11_flee 34 = .ok (.goto 4, 3) := by decide +kernel
theorem dX11_flee_37 : decode cX11_flee 37 = .ok (.iconst (-1), 1) := by decide +kernel
theorem dX11_flee_38 : decode cX11_flee 38 = .ok (.istore_n 2, 1) := by decide +kernel
theorem dX11_flee_39 : decode cX11_flee 39 = .ok (.aload_n 0, 1) := by decide +kernel
theorem dX11_flee_40 : decode cX11_flee 40 = .ok (.getfield 10, 3) := by decide +kernel
theorem dX11_flee_43 : decode cX11_flee 43 = .ok (.iconst 0, 1) := by decide +kernel
theorem dX11_flee_44 : decode cX11_flee 44 = .ok (.invokevirtual 86, 3) := by decide +kernel
theorem dX11_flee_47 : decode cX11_flee 47 = .ok (.iload_n 2, 1) := by decide +kernel
theorem dX11_flee_48 : decode cX11_flee 48 = .ok (.ireturn, 1) := by decide +kernel
theorem dX11_fled_0 : decode cX11_fled 0 = .ok (.aload_n 0, 1) := by decide +kernel
theorem dX11_fled_1 : decode cX11_fled 1 = .ok (.getfield 62, 3) := by decide +kernel
theorem dX11_fled_4 : decode cX11_fled 4 = .ok (.iload_n 1, 1) := by decide +kernel
theorem dX11_fled_5 : decode cX11_fled 5 = .ok (.invokevirtual 209, 3) := by decide +kernel
theorem dX11_fled_8 : decode cX11_fled 8 = .ok (.ireturn, 1) := by decide +kernel
theorem dX11_doubt_0 : decode cX11_doubt 0 = .ok (.iload_n 1, 1) := by decide +kernel
theorem dX11_doubt_1 : decode cX11_doubt 1 = .ok (.invokestatic 210, 3) := by decide +kernel
theorem dX11_doubt_4 : decode cX11_doubt 4 = .ok (.ifCond .eq 35, 3) := by decide +kernel
theorem dX11_doubt_7 : decode cX11_doubt 7 = .ok (.iload_n 2, 1) := by decide +kernel
theorem dX11_doubt_8 : decode cX11_doubt 8 = .ok (.invokestatic 210, 3) := by decide +kernel
theorem dX11_doubt_11 : decode cX11_doubt 11 = .ok (.ifCond .eq 28, 3) := by decide +kernel
theorem dX11_doubt_14 : decode cX11_doubt 14 = .ok (.iload_n 3, 1) := by decide +kernel
theorem dX11_doubt_15 : decode cX11_doubt 15 = .ok (.invokestatic 210, 3) := by decide +kernel
theorem dX11_doubt_18 : decode cX11_doubt 18 = .ok (.ifCond .eq 21, 3) := by decide +kernel
theorem dX11_doubt_21 : decode cX11_doubt 21 = .ok (.iload 4, 2) := by decide +kernel
theorem dX11_doubt_23 : decode cX11_doubt 23 = .ok (.invokestatic 210, 3) := by decide +kernel
theorem dX11_doubt_26 : decode cX11_doubt 26 = .ok (.ifCond .eq 13, 3) := by decide +kernel
theorem dX11_doubt_29 : decode cX11_doubt 29 = .ok (.iload 5, 2) := by decide +kernel
theorem dX11_doubt_31 : decode cX11_doubt 31 = .ok (.iconst 0, 1) := by decide +kernel
theorem dX11_doubt_32 : decode cX11_doubt 32 = .ok (.iconst 2, 1) := by decide +kernel
theorem dX11_doubt_33 : decode cX11_doubt 33 = .ok (.invokestatic 95, 3) := by decide +kernel
theorem dX11_doubt_36 : decode cX11_doubt 36 = .ok (.ifCond .ne 7, 3) := by decide +kernel
theorem dX11_doubt_39 : decode cX11_doubt 39 = .ok (.ldc2_w 213, 3) := by decide +kernel
theorem dX11_doubt_42 : decode cX11_doubt 42 = .ok (.lreturn, 1) := by decide +kernel
theorem dX11_doubt_43 : decode cX11_doubt 43 = .ok (.iload_n 1, 1) := by decide +kernel
theorem dX11_doubt_44 : decode cX11_doubt 44 = .ok (.iload_n 2, 1) := by decide +kernel
theorem dX11_doubt_45 : decode cX11_doubt 45 = .ok (.iadd, 1) := by decide +kernel
theorem dX11_doubt_46 : decode cX11_doubt 46 = .ok (.istore 6, 2) := by decide +kernel
theorem dX11_doubt_48 : decode cX11_doubt 48 = .ok (.iload_n 3, 1) := by decide +kernel
theorem dX11_doubt_49 : decode cX11_doubt 49 = .ok (.iload 4, 2) := by decide +kernel
theorem dX11_doubt_51 : decode cX11_doubt 51 = .ok (.iadd, 1) := by decide +kernel
theorem dX11_doubt_52 : decode cX11_doubt 52 = .ok (.istore 7, 2) := by decide +kernel
theorem dX11_doubt_54 : decode cX11_doubt 54 = .ok (.iload_n 1, 1) := by decide +kernel
theorem dX11_doubt_55 : decode cX11_doubt 55 = .ok (.iload_n 3, 1) := by decide +kernel
theorem dX11_doubt_56 : decode cX11_doubt 56 = .ok (.iadd, 1) := by decide +kernel
theorem dX11_doubt_57 : decode cX11_doubt 57 = .ok (.istore 8, 2) := by decide +kernel
theorem dX11_doubt_59 : decode cX11_doubt 59 = .ok (.iload 6, 2) := by decide +kernel
theorem dX11_doubt_61 : decode cX11_doubt 61 = .ok (.iload 7, 2) := by decide +kernel
theorem dX11_doubt_63 : decode cX11_doubt 63 = .ok (.iadd, 1) := by decide +kernel
theorem dX11_doubt_64 : decode cX11_doubt 64 = .ok (.ifCond .ne 7, 3) := by decide +kernel
theorem dX11_doubt_67 : decode cX11_doubt 67 = .ok (.ldc2_w 213, 3) := by decide +kernel
theorem dX11_doubt_70 : decode cX11_doubt 70 = .ok (.lreturn, 1) := by decide +kernel
theorem dX11_doubt_71 : decode cX11_doubt 71 = .ok (.iload 6, 2) := by decide +kernel
theorem dX11_doubt_73 : decode cX11_doubt 73 = .ok (.iload 7, 2) := by decide +kernel
theorem dX11_doubt_75 : decode cX11_doubt 75 = .ok (.iadd, 1) := by decide +kernel
theorem dX11_doubt_76 : decode cX11_doubt 76 = .ok (.iload 8, 2) := by decide +kernel
theorem dX11_doubt_78 : decode cX11_doubt 78 = .ok (.invokestatic 215, 3) := by decide +kernel
theorem dX11_doubt_81 : decode cX11_doubt 81 = .ok (.lstore 9, 2) := by decide +kernel
theorem dX11_doubt_83 : decode cX11_doubt 83 = .ok (.lconst 0, 1) := by decide +kernel
theorem dX11_doubt_84 : decode cX11_doubt 84 = .ok (.lstore 11, 2) := by decide +kernel
theorem dX11_doubt_86 : decode cX11_doubt 86 = .ok (.iconst 0, 1) := by decide +kernel
theorem dX11_doubt_87 : decode cX11_doubt 87 = .ok (.istore 13, 2) := by decide +kernel
theorem dX11_doubt_89 : decode cX11_doubt 89 = .ok (.iload 13, 2) := by decide +kernel
theorem dX11_doubt_91 : decode cX11_doubt 91 = .ok (.iload_n 1, 1) := by decide +kernel
theorem dX11_doubt_92 : decode cX11_doubt 92 = .ok (.if_icmp .gt 32, 3) := by decide +kernel
theorem dX11_doubt_95 : decode cX11_doubt 95 = .ok (.lload 11, 2) := by decide +kernel
theorem dX11_doubt_97 : decode cX11_doubt 97 = .ok (.iload 6, 2) := by decide +kernel
theorem dX11_doubt_99 : decode cX11_doubt 99 = .ok (.iload 13, 2) := by decide +kernel
theorem dX11_doubt_101 : decode cX11_doubt 101 = .ok (.invokestatic 215, 3) := by decide +kernel
theorem dX11_doubt_104 : decode cX11_doubt 104 = .ok (.iload 7, 2) := by decide +kernel
theorem dX11_doubt_106 : decode cX11_doubt 106 = .ok (.iload 8, 2) := by decide +kernel
theorem dX11_doubt_108 : decode cX11_doubt 108 = .ok (.iload 13, 2) := by decide +kernel
theorem dX11_doubt_110 : decode cX11_doubt 110 = .ok (.isub, 1) := by decide +kernel
theorem dX11_doubt_111 : decode cX11_doubt 111 = .ok (.invokestatic 215, 3) := by decide +kernel
theorem dX11_doubt_114 : decode cX11_doubt 114 = .ok (.lmul, 1) := by decide +kernel
theorem dX11_doubt_115 : decode cX11_doubt 115 = .ok (.ladd, 1) := by decide +kernel
theorem dX11_doubt_116 : decode cX11_doubt 116 = .ok (.lstore 11, 2) := by decide +kernel
theorem dX11_doubt_118 : decode cX11_doubt 118 = .ok (.iinc 13 1, 3) := by decide +kernel
theorem dX11_doubt_121 : decode cX11_doubt 121 = .ok (.goto (-32), 3) := by decide +kernel
theorem dX11_doubt_124 : decode cX11_doubt 124 = .ok (.iload 5, 2) := by decide +kernel
theorem dX11_doubt_126 : decode cX11_doubt 126 = .ok (.iconst 2, 1) := by decide +kernel
theorem dX11_doubt_127 : decode cX11_doubt 127 = .ok (.if_icmp .ne 21, 3) := by decide +kernel
theorem dX11_doubt_130 : decode cX11_doubt 130 = .ok (.ldc2_w 219, 3) := by decide +kernel
theorem dX11_doubt_133 : decode cX11_doubt 133 = .ok (.lload 11, 2) := by decide +kernel
theorem dX11_doubt_135 : decode cX11_doubt 135 = .ok (.lmul, 1) := by decide +kernel
theorem dX11_doubt_136 : decode cX11_doubt 136 = .ok (.lload 9, 2) := by decide +kernel
theorem dX11_doubt_138 : decode cX11_doubt 138 = .ok (.lcmp, 1) := by decide +kernel
theorem dX11_doubt_139 : decode cX11_doubt 139 = .ok (.ifCond .gt 7, 3) := by decide +kernel
theorem dX11_doubt_142 : decode cX11_doubt 142 = .ok (.lconst 1, 1) := by decide +kernel
theorem dX11_doubt_143 : decode cX11_doubt 143 = .ok (.goto 4, 3) := by decide +kernel
theorem dX11_doubt_146 : decode cX11_doubt 146 = .ok (.lconst 0, 1) := by decide +kernel
theorem dX11_doubt_147 : decode cX11_doubt 147 = .ok (.lreturn, 1) := by decide +kernel
theorem dX11_doubt_148 : decode cX11_doubt 148 = .ok (.iload 5, 2) := by decide +kernel
theorem dX11_doubt_150 : decode cX11_doubt 150 = .ok (.ifCond .ne 8, 3) := by decide +kernel
theorem dX11_doubt_153 : decode cX11_doubt 153 = .ok (.lload 11, 2) := by decide +kernel
theorem dX11_doubt_155 : decode cX11_doubt 155 = .ok (.goto 5, 3) := by decide +kernel
theorem dX11_doubt_158 : decode cX11_doubt 158 = .ok (.lload 9, 2) := by decide +kernel
theorem dX11_doubt_160 : decode cX11_doubt 160 = .ok (.lload 11, 2) := by decide +kernel
theorem dX11_doubt_162 : decode cX11_doubt 162 = .ok (.lload 9, 2) := by decide +kernel
theorem dX11_doubt_164 : decode cX11_doubt 164 = .ok (.invokestatic 221, 3) := by decide +kernel
theorem dX11_doubt_167 : decode cX11_doubt 167 = .ok (.ldiv, 1) := by decide +kernel
theorem dX11_doubt_168 : decode cX11_doubt 168 = .ok (.lreturn, 1) := by decide +kernel
theorem dX11_count_0 : decode cX11_count 0 = .ok (.iload_n 1, 1) := by decide +kernel
theorem dX11_count_1 : decode cX11_count 1 = .ok (.tableswitch 51 0 2 #[27, 35, 43], 27) := by decide +kernel
theorem dX11_count_28 : decode cX11_count 28 = .ok (.aload_n 0, 1) := by decide +kernel
theorem dX11_count_29 : decode cX11_count 29 = .ok (.getfield 48, 3) := by decide +kernel
theorem dX11_count_32 : decode cX11_count 32 = .ok (.invokevirtual 225, 3) := by decide +kernel
theorem dX11_count_35 : decode cX11_count 35 = .ok (.ireturn, 1) := by decide +kernel
theorem dX11_count_36 : decode cX11_count 36 = .ok (.aload_n 0, 1) := by decide +kernel
theorem dX11_count_37 : decode cX11_count 37 = .ok (.getfield 55, 3) := by decide +kernel
theorem dX11_count_40 : decode cX11_count 40 = .ok (.invokevirtual 228, 3) := by decide +kernel
theorem dX11_count_43 : decode cX11_count 43 = .ok (.ireturn, 1) := by decide +kernel
theorem dX11_count_44 : decode cX11_count 44 = .ok (.aload_n 0, 1) := by decide +kernel
theorem dX11_count_45 : decode cX11_count 45 = .ok (.getfield 10, 3) := by decide +kernel
theorem dX11_count_48 : decode cX11_count 48 = .ok (.invokevirtual 82, 3) := by decide +kernel
theorem dX11_count_51 : decode cX11_count 51 = .ok (.ireturn, 1) := by decide +kernel
theorem dX11_count_52 : decode cX11_count 52 = .ok (.iload_n 1, 1) := by decide +kernel
theorem dX11_count_53 : decode cX11_count 53 = .ok (.bipush 10, 2) := by decide +kernel
theorem dX11_count_55 : decode cX11_count 55 = .ok (.bipush 13, 2) := by decide +kernel
theorem dX11_count_57 : decode cX11_count 57 = .ok (.invokestatic 95, 3) := by decide +kernel
theorem dX11_count_60 : decode cX11_count 60 = .ok (.ifCond .eq 16, 3) := by decide +kernel
theorem dX11_count_63 : decode cX11_count 63 = .ok (.aload_n 0, 1) := by decide +kernel
theorem dX11_count_64 : decode cX11_count 64 = .ok (.getfield 41, 3) := by decide +kernel
theorem dX11_count_67 : decode cX11_count 67 = .ok (.iload_n 1, 1) := by decide +kernel
theorem dX11_count_68 : decode cX11_count 68 = .ok (.bipush 10, 2) := by decide +kernel
theorem dX11_count_70 : decode cX11_count 70 = .ok (.isub, 1) := by decide +kernel
theorem dX11_count_71 : decode cX11_count 71 = .ok (.aaload, 1) := by decide +kernel
theorem dX11_count_72 : decode cX11_count 72 = .ok (.getfield 229, 3) := by decide +kernel
theorem dX11_count_75 : decode cX11_count 75 = .ok (.ireturn, 1) := by decide +kernel
theorem dX11_count_76 : decode cX11_count 76 = .ok (.iload_n 1, 1) := by decide +kernel
theorem dX11_count_77 : decode cX11_count 77 = .ok (.bipush 20, 2) := by decide +kernel
theorem dX11_count_79 : decode cX11_count 79 = .ok (.bipush 23, 2) := by decide +kernel
theorem dX11_count_81 : decode cX11_count 81 = .ok (.invokestatic 95, 3) := by decide +kernel
theorem dX11_count_84 : decode cX11_count 84 = .ok (.ifCond .eq 16, 3) := by decide +kernel
theorem dX11_count_87 : decode cX11_count 87 = .ok (.aload_n 0, 1) := by decide +kernel
theorem dX11_count_88 : decode cX11_count 88 = .ok (.getfield 41, 3) := by decide +kernel
theorem dX11_count_91 : decode cX11_count 91 = .ok (.iload_n 1, 1) := by decide +kernel
theorem dX11_count_92 : decode cX11_count 92 = .ok (.bipush 20, 2) := by decide +kernel
theorem dX11_count_94 : decode cX11_count 94 = .ok (.isub, 1) := by decide +kernel
theorem dX11_count_95 : decode cX11_count 95 = .ok (.aaload, 1) := by decide +kernel
theorem dX11_count_96 : decode cX11_count 96 = .ok (.getfield 196, 3) := by decide +kernel
theorem dX11_count_99 : decode cX11_count 99 = .ok (.ireturn, 1) := by decide +kernel
theorem dX11_count_100 : decode cX11_count 100 = .ok (.iload_n 1, 1) := by decide +kernel
theorem dX11_count_101 : decode cX11_count 101 = .ok (.bipush 30, 2) := by decide +kernel
theorem dX11_count_103 : decode cX11_count 103 = .ok (.bipush 33, 2) := by decide +kernel
theorem dX11_count_105 : decode cX11_count 105 = .ok (.invokestatic 95, 3) := by decide +kernel
theorem dX11_count_108 : decode cX11_count 108 = .ok (.ifCond .eq 16, 3) := by decide +kernel
theorem dX11_count_111 : decode cX11_count 111 = .ok (.aload_n 0, 1) := by decide +kernel
theorem dX11_count_112 : decode cX11_count 112 = .ok (.getfield 41, 3) := by decide +kernel
theorem dX11_count_115 : decode cX11_count 115 = .ok (.iload_n 1, 1) := by decide +kernel
theorem dX11_count_116 : decode cX11_count 116 = .ok (.bipush 30, 2) := by decide +kernel
theorem dX11_count_118 : decode cX11_count 118 = .ok (.isub, 1) := by decide +kernel
theorem dX11_count_119 : decode cX11_count 119 = .ok (.aaload, 1) := by decide +kernel
theorem dX11_count_120 : decode cX11_count 120 = .ok (.getfield 232, 3) := by decide +kernel
theorem dX11_count_123 : decode cX11_count 123 = .ok (.ireturn, 1) := by decide +kernel
theorem dX11_count_124 : decode cX11_count 124 = .ok (.iconst (-1), 1) := by decide +kernel
theorem dX11_count_125 : decode cX11_count 125 = .ok (.ireturn, 1) := by decide +kernel
theorem dX11_isFrom_0 : decode cX11_isFrom 0 = .ok (.iload_n 0, 1) := by decide +kernel
theorem dX11_isFrom_1 : decode cX11_isFrom 1 = .ok (.iload_n 1, 1) := by decide +kernel
theorem dX11_isFrom_2 : decode cX11_isFrom 2 = .ok (.if_icmp .lt 12, 3) := by decide +kernel
theorem dX11_isFrom_5 : decode cX11_isFrom 5 = .ok (.iload_n 0, 1) := by decide +kernel
theorem dX11_isFrom_6 : decode cX11_isFrom 6 = .ok (.iload_n 2, 1) := by decide +kernel
theorem dX11_isFrom_7 : decode cX11_isFrom 7 = .ok (.if_icmp .gt 7, 3) := by decide +kernel
theorem dX11_isFrom_10 : decode cX11_isFrom 10 = .ok (.iconst 1, 1) := by decide +kernel
theorem dX11_isFrom_11 : decode cX11_isFrom 11 = .ok (.goto 4, 3) := by decide +kernel
theorem dX11_isFrom_14 : decode cX11_isFrom 14 = .ok (.iconst 0, 1) := by decide +kernel
theorem dX11_isFrom_15 : decode cX11_isFrom 15 = .ok (.ireturn, 1) := by decide +kernel
theorem dX11_isCourt_0 : decode cX11_isCourt 0 = .ok (.iload_n 0, 1) := by decide +kernel
theorem dX11_isCourt_1 : decode cX11_isCourt 1 = .ok (.iconst 0, 1) := by decide +kernel
theorem dX11_isCourt_2 : decode cX11_isCourt 2 = .ok (.bipush 11, 2) := by decide +kernel
theorem dX11_isCourt_4 : decode cX11_isCourt 4 = .ok (.invokestatic 95, 3) := by decide +kernel
theorem dX11_isCourt_7 : decode cX11_isCourt 7 = .ok (.ireturn, 1) := by decide +kernel
theorem dX11_isWard_0 : decode cX11_isWard 0 = .ok (.iload_n 0, 1) := by decide +kernel
theorem dX11_isWard_1 : decode cX11_isWard 1 = .ok (.iconst 0, 1) := by decide +kernel
theorem dX11_isWard_2 : decode cX11_isWard 2 = .ok (.iconst 3, 1) := by decide +kernel
theorem dX11_isWard_3 : decode cX11_isWard 3 = .ok (.invokestatic 95, 3) := by decide +kernel
theorem dX11_isWard_6 : decode cX11_isWard 6 = .ok (.ireturn, 1) := by decide +kernel
theorem dX11_isTaking_0 : decode cX11_isTaking 0 = .ok (.iload_n 0, 1) := by decide +kernel
theorem dX11_isTaking_1 : decode cX11_isTaking 1 = .ok (.invokestatic 92, 3) := by decide +kernel
theorem dX11_isTaking_4 : decode cX11_isTaking 4 = .ok (.ifCond .eq 26, 3) := by decide +kernel
theorem dX11_isTaking_7 : decode cX11_isTaking 7 = .ok (.iload_n 1, 1) := by decide +kernel
theorem dX11_isTaking_8 : decode cX11_isTaking 8 = .ok (.iconst 0, 1) := by decide +kernel
theorem dX11_isTaking_9 : decode cX11_isTaking 9 = .ok (.iconst 2, 1) := by decide +kernel
theorem dX11_isTaking_10 : decode cX11_isTaking 10 = .ok (.invokestatic 95, 3) := by decide +kernel
theorem dX11_isTaking_13 : decode cX11_isTaking 13 = .ok (.ifCond .eq 17, 3) := by decide +kernel
theorem dX11_isTaking_16 : decode cX11_isTaking 16 = .ok (.iload_n 2, 1) := by decide +kernel
theorem dX11_isTaking_17 : decode cX11_isTaking 17 = .ok (.iconst 0, 1) := by decide +kernel
theorem dX11_isTaking_18 : decode cX11_isTaking 18 = .ok (.bipush 23, 2) := by decide +kernel
theorem dX11_isTaking_20 : decode cX11_isTaking 20 = .ok (.invokestatic 95, 3) := by decide +kernel
theorem dX11_isTaking_23 : decode cX11_isTaking 23 = .ok (.ifCond .eq 7, 3) := by decide +kernel
theorem dX11_isTaking_26 : decode cX11_isTaking 26 = .ok (.iconst 1, 1) := by decide +kernel
theorem dX11_isTaking_27 : decode cX11_isTaking 27 = .ok (.goto 4, 3) := by decide +kernel
theorem dX11_isTaking_30 : decode cX11_isTaking 30 = .ok (.iconst 0, 1) := by decide +kernel
theorem dX11_isTaking_31 : decode cX11_isTaking 31 = .ok (.ireturn, 1) := by decide +kernel
theorem dX11_isInTable_0 : decode cX11_isInTable 0 = .ok (.iload_n 0, 1) := by decide +kernel
theorem dX11_isInTable_1 : decode cX11_isInTable 1 = .ok (.iconst 0, 1) := by decide +kernel
theorem dX11_isInTable_2 : decode cX11_isInTable 2 = .ok (.bipush 15, 2) := by decide +kernel
theorem dX11_isInTable_4 : decode cX11_isInTable 4 = .ok (.invokestatic 95, 3) := by decide +kernel
theorem dX11_isInTable_7 : decode cX11_isInTable 7 = .ok (.ireturn, 1) := by decide +kernel
theorem dX11_waysToChoose_0 : decode cX11_waysToChoose 0 = .ok (.iload_n 1, 1) := by decide +kernel
theorem dX11_waysToChoose_1 : decode cX11_waysToChoose 1 = .ok (.ifCond .lt 8, 3) := by decide +kernel
theorem dX11_waysToChoose_4 : decode cX11_waysToChoose 4 = .ok (.iload_n 1, 1) := by decide +kernel
theorem dX11_waysToChoose_5 : decode cX11_waysToChoose 5 = .ok (.iload_n 0, 1) := by decide +kernel
theorem dX11_waysToChoose_6 : decode cX11_waysToChoose 6 = .ok (.if_icmp .le 5, 3) := by decide +kernel
theorem dX11_waysToChoose_9 : decode cX11_waysToChoose 9 = .ok (.lconst 0, 1) := by decide +kernel
theorem dX11_waysToChoose_10 : decode cX11_waysToChoose 10 = .ok (.lreturn, 1) := by decide +kernel
theorem dX11_waysToChoose_11 : decode cX11_waysToChoose 11 = .ok (.iload_n 1, 1) := by decide +kernel
theorem dX11_waysToChoose_12 : decode cX11_waysToChoose 12 = .ok (.iload_n 0, 1) := by decide +kernel
theorem dX11_waysToChoose_13 : decode cX11_waysToChoose 13 = .ok (.iload_n 1, 1) := by decide +kernel
theorem dX11_waysToChoose_14 : decode cX11_waysToChoose 14 = .ok (.isub, 1) := by decide +kernel
theorem dX11_waysToChoose_15 : decode cX11_waysToChoose 15 = .ok (.invokestatic 235, 3) := by decide +kernel
theorem dX11_waysToChoose_18 : decode cX11_waysToChoose 18 = .ok (.istore_n 2, 1) := by decide +kernel
theorem dX11_waysToChoose_19 : decode cX11_waysToChoose 19 = .ok (.lconst 1, 1) := by decide +kernel
theorem dX11_waysToChoose_20 : decode cX11_waysToChoose 20 = .ok (.lstore_n 3, 1) := by decide +kernel
theorem dX11_waysToChoose_21 : decode cX11_waysToChoose 21 = .ok (.iconst 1, 1) := by decide +kernel
theorem dX11_waysToChoose_22 : decode cX11_waysToChoose 22 = .ok (.istore 5, 2) := by decide +kernel
theorem dX11_waysToChoose_24 : decode cX11_waysToChoose 24 = .ok (.iload 5, 2) := by decide +kernel
theorem dX11_waysToChoose_26 : decode cX11_waysToChoose 26 = .ok (.iload_n 2, 1) := by decide +kernel
theorem dX11_waysToChoose_27 : decode cX11_waysToChoose 27 = .ok (.if_icmp .gt 23, 3) := by decide +kernel
theorem dX11_waysToChoose_30 : decode cX11_waysToChoose 30 = .ok (.lload_n 3, 1) := by decide +kernel
theorem dX11_waysToChoose_31 : decode cX11_waysToChoose 31 = .ok (.iload_n 0, 1) := by decide +kernel
theorem dX11_waysToChoose_32 : decode cX11_waysToChoose 32 = .ok (.iload_n 2, 1) := by decide +kernel
theorem dX11_waysToChoose_33 : decode cX11_waysToChoose 33 = .ok (.isub, 1) := by decide +kernel
theorem dX11_waysToChoose_34 : decode cX11_waysToChoose 34 = .ok (.iload 5, 2) := by decide +kernel
theorem dX11_waysToChoose_36 : decode cX11_waysToChoose 36 = .ok (.iadd, 1) := by decide +kernel
theorem dX11_waysToChoose_37 : decode cX11_waysToChoose 37 = .ok (.i2l, 1) := by decide +kernel
theorem dX11_waysToChoose_38 : decode cX11_waysToChoose 38 = .ok (.lmul, 1) := by decide +kernel
theorem dX11_waysToChoose_39 : decode cX11_waysToChoose 39 = .ok (.iload 5, 2) := by decide +kernel
theorem dX11_waysToChoose_41 : decode cX11_waysToChoose 41 = .ok (.i2l, 1) := by decide +kernel
theorem dX11_waysToChoose_42 : decode cX11_waysToChoose 42 = .ok (.ldiv, 1) := by decide +kernel
theorem dX11_waysToChoose_43 : decode cX11_waysToChoose 43 = .ok (.lstore_n 3, 1) := by decide +kernel
theorem dX11_waysToChoose_44 : decode cX11_waysToChoose 44 = .ok (.iinc 5 1, 3) := by decide +kernel
theorem dX11_waysToChoose_47 : decode cX11_waysToChoose 47 = .ok (.goto (-23), 3) := by decide +kernel
theorem dX11_waysToChoose_50 : decode cX11_waysToChoose 50 = .ok (.lload_n 3, 1) := by decide +kernel
theorem dX11_waysToChoose_51 : decode cX11_waysToChoose 51 = .ok (.lreturn, 1) := by decide +kernel
theorem dX11_greatestCommonPart_0 : decode cX11_greatestCommonPart 0 = .ok (.lload_n 0, 1) := by decide +kernel
theorem dX11_greatestCommonPart_1 : decode cX11_greatestCommonPart 1 = .ok (.lstore 4, 2) := by decide +kernel
theorem dX11_greatestCommonPart_3 : decode cX11_greatestCommonPart 3 = .ok (.lload_n 2, 1) := by decide +kernel
theorem dX11_greatestCommonPart_4 : decode cX11_greatestCommonPart 4 = .ok (.lstore 6, 2) := by decide +kernel
theorem dX11_greatestCommonPart_6 : decode cX11_greatestCommonPart 6 = .ok (.iconst 0, 1) := by decide +kernel
theorem dX11_greatestCommonPart_7 : decode cX11_greatestCommonPart 7 = .ok (.istore 8, 2) := by decide +kernel
theorem dX11_greatestCommonPart_9 : decode cX11_greatestCommonPart 9 = .ok (.iload 8, 2) := by decide +kernel
theorem dX11_greatestCommonPart_11 : decode cX11_greatestCommonPart 11 = .ok (.bipush 100, 2) := by decide +kernel
theorem dX11_greatestCommonPart_13 : decode cX11_greatestCommonPart 13 = .ok (.if_icmp .ge 31, 3) := by decide +kernel
theorem dX11_greatestCommonPart_16 : decode cX11_greatestCommonPart 16 = .ok (.lload 6, 2) := by decide +kernel
theorem dX11_greatestCommonPart_18 : decode cX11_greatestCommonPart 18 = .ok (.lconst 0, 1) := by decide +kernel
theorem dX11_greatestCommonPart_19 : decode cX11_greatestCommonPart 19 = .ok (.lcmp, 1) := by decide +kernel
theorem dX11_greatestCommonPart_20 : decode cX11_greatestCommonPart 20 = .ok (.ifCond .le 24, 3) := by decide +kernel
theorem dX11_greatestCommonPart_23 : decode cX11_greatestCommonPart 23 = .ok (.lload 4, 2) := by decide +kernel
theorem dX11_greatestCommonPart_25 : decode cX11_greatestCommonPart 25 = .ok (.lload 6, 2) := by decide +kernel
theorem dX11_greatestCommonPart_27 : decode cX11_greatestCommonPart 27 = .ok (.lrem, 1) := by decide +kernel
theorem dX11_greatestCommonPart_28 : decode cX11_greatestCommonPart 28 = .ok (.lstore 9, 2) := by decide +kernel
theorem dX11_greatestCommonPart_30 : decode cX11_greatestCommonPart 30 = .ok (.lload 6, 2) := by decide +kernel
theorem dX11_greatestCommonPart_32 : decode cX11_greatestCommonPart 32 = .ok (.lstore 4, 2) := by decide +kernel
theorem dX11_greatestCommonPart_34 : decode cX11_greatestCommonPart 34 = .ok (.lload 9, 2) := by decide +kernel
theorem dX11_greatestCommonPart_36 : decode cX11_greatestCommonPart 36 = .ok (.lstore 6, 2) := by decide +kernel
theorem dX11_greatestCommonPart_38 : decode cX11_greatestCommonPart 38 = .ok (.iinc 8 1, 3) := by decide +kernel
theorem dX11_greatestCommonPart_41 : decode cX11_greatestCommonPart 41 = .ok (.goto (-32), 3) := by decide +kernel
theorem dX11_greatestCommonPart_44 : decode cX11_greatestCommonPart 44 = .ok (.lload 4, 2) := by decide +kernel
theorem dX11_greatestCommonPart_46 : decode cX11_greatestCommonPart 46 = .ok (.lconst 1, 1) := by decide +kernel
theorem dX11_greatestCommonPart_47 : decode cX11_greatestCommonPart 47 = .ok (.invokestatic 240, 3) := by decide +kernel
theorem dX11_greatestCommonPart_50 : decode cX11_greatestCommonPart 50 = .ok (.lreturn, 1) := by decide +kernel
theorem dX12_init_0 : decode cX12_init 0 = .ok (.aload_n 0, 1) := by decide +kernel
theorem dX12_init_1 : decode cX12_init 1 = .ok (.invokespecial 1, 3) := by decide +kernel
theorem dX12_init_4 : decode cX12_init 4 = .ok (.aload_n 0, 1) := by decide +kernel
theorem dX12_init_5 : decode cX12_init 5 = .ok (.sipush 800, 3) := by decide +kernel
theorem dX12_init_8 : decode cX12_init 8 = .ok (.newarray .byte, 2) := by decide +kernel
theorem dX12_init_10 : decode cX12_init 10 = .ok (.putfield 7, 3) := by decide +kernel
theorem dX12_init_13 : decode cX12_init 13 = .ok (.aload_n 0, 1) := by decide +kernel
theorem dX12_init_14 : decode cX12_init 14 = .ok (.iconst (-1), 1) := by decide +kernel
theorem dX12_init_15 : decode cX12_init 15 = .ok (.putfield 13, 3) := by decide +kernel
theorem dX12_init_18 : decode cX12_init 18 = .ok (.aload_n 0, 1) := by decide +kernel
theorem dX12_init_19 : decode cX12_init 19 = .ok (.bipush 12, 2) := by decide +kernel
theorem dX12_init_21 : decode cX12_init 21 = .ok (.newarray .int, 2) := by decide +kernel
theorem dX12_init_23 : decode cX12_init 23 = .ok (.putfield 17, 3) := by decide +kernel
theorem dX12_init_26 : decode cX12_init 26 = .ok (.aload_n 0, 1) := by decide +kernel
theorem dX12_init_27 : decode cX12_init 27 = .ok (.bipush 12, 2) := by decide +kernel
theorem dX12_init_29 : decode cX12_init 29 = .ok (.newarray .int, 2) := by decide +kernel
theorem dX12_init_31 : decode cX12_init 31 = .ok (.putfield 21, 3) := by decide +kernel
theorem dX12_init_34 : decode cX12_init 34 = .ok (.aload_n 0, 1) := by decide +kernel
theorem dX12_init_35 : decode cX12_init 35 = .ok (.sipush 144, 3) := by decide +kernel
theorem dX12_init_38 : decode cX12_init 38 = .ok (.newarray .int, 2) := by decide +kernel
theorem dX12_init_40 : decode cX12_init 40 = .ok (.putfield 24, 3) := by decide +kernel
theorem dX12_init_43 : decode cX12_init 43 = .ok (.aload_n 0, 1) := by decide +kernel
theorem dX12_init_44 : decode cX12_init 44 = .ok (.sipush 144, 3) := by decide +kernel
theorem dX12_init_47 : decode cX12_init 47 = .ok (.newarray .int, 2) := by decide +kernel
theorem dX12_init_49 : decode cX12_init 49 = .ok (.putfield 27, 3) := by decide +kernel
theorem dX12_init_52 : decode cX12_init 52 = .ok (.aload_n 0, 1) := by decide +kernel
theorem dX12_init_53 : decode cX12_init 53 = .ok (.bipush 10, 2) := by decide +kernel
theorem dX12_init_55 : decode cX12_init 55 = .ok (.newarray .int, 2) := by decide +kernel
theorem dX12_init_57 : decode cX12_init 57 = .ok (.putfield 30, 3) := by decide +kernel
theorem dX12_init_60 : decode cX12_init 60 = .ok (.aload_n 0, 1) := by decide +kernel
theorem dX12_init_61 : decode cX12_init 61 = .ok (.sipush 10240, 3) := by decide +kernel
theorem dX12_init_64 : decode cX12_init 64 = .ok (.newarray .int, 2) := by decide +kernel
theorem dX12_init_66 : decode cX12_init 66 = .ok (.putfield 33, 3) := by decide +kernel
theorem dX12_init_69 : decode cX12_init 69 = .ok (.aload_n 0, 1) := by decide +kernel
theorem dX12_init_70 : decode cX12_init 70 = .ok (.sipush 1024, 3) := by decide +kernel
theorem dX12_init_73 : decode cX12_init 73 = .ok (.newarray .int, 2) := by decide +kernel
theorem dX12_init_75 : decode cX12_init 75 = .ok (.putfield 36, 3) := by decide +kernel
theorem dX12_init_78 : decode cX12_init 78 = .ok (.aload_n 0, 1) := by decide +kernel
theorem dX12_init_79 : decode cX12_init 79 = .ok (.bipush 10, 2) := by decide +kernel
theorem dX12_init_81 : decode cX12_init 81 = .ok (.newarray .int, 2) := by decide +kernel
theorem dX12_init_83 : decode cX12_init 83 = .ok (.putfield 39, 3) := by decide +kernel
theorem dX12_init_86 : decode cX12_init 86 = .ok (.aload_n 0, 1) := by decide +kernel
theorem dX12_init_87 : decode cX12_init 87 = .ok (.bipush 10, 2) := by decide +kernel
theorem dX12_init_89 : decode cX12_init 89 = .ok (.newarray .int, 2) := by decide +kernel
theorem dX12_init_91 : decode cX12_init 91 = .ok (.putfield 42, 3) := by decide +kernel
theorem dX12_init_94 : decode cX12_init 94 = .ok (.aload_n 0, 1) := by decide +kernel
theorem dX12_init_95 : decode cX12_init 95 = .ok (.bipush 10, 2) := by decide +kernel
theorem dX12_init_97 : decode cX12_init 97 = .ok (.newarray .int, 2) := by decide +kernel
theorem dX12_init_99 : decode cX12_init 99 = .ok (.putfield 45, 3) := by decide +kernel
theorem dX12_init_102 : decode cX12_init 102 = .ok (.aload_n 0, 1) := by decide +kernel
theorem dX12_init_103 : decode cX12_init 103 = .ok (.bipush 12, 2) := by decide +kernel
theorem dX12_init_105 : decode cX12_init 105 = .ok (.newarray .int, 2) := by decide +kernel
theorem dX12_init_107 : decode cX12_init 107 = .ok (.putfield 48, 3) := by decide +kernel
theorem dX12_init_110 : decode cX12_init 110 = .ok (.aload_n 0, 1) := by decide +kernel
theorem dX12_init_111 : decode cX12_init 111 = .ok (.bipush 10, 2) := by decide +kernel
theorem dX12_init_113 : decode cX12_init 113 = .ok (.newarray .int, 2) := by decide +kernel
theorem dX12_init_115 : decode cX12_init 115 = .ok (.putfield 51, 3) := by decide +kernel
theorem dX12_init_118 : decode cX12_init 118 = .ok (.aload_n 0, 1) := by decide +kernel
theorem dX12_init_119 : decode cX12_init 119 = .ok (.bipush 10, 2) := by decide +kernel
theorem dX12_init_121 : decode cX12_init 121 = .ok (.newarray .int, 2) := by decide +kernel
theorem dX12_init_123 : decode cX12_init 123 = .ok (.putfield 54, 3) := by decide +kernel
theorem dX12_init_126 : decode cX12_init 126 = .ok (.aload_n 0, 1) := by decide +kernel
theorem dX12_init_127 : decode cX12_init 127 = .ok (.bipush 40, 2) := by decide +kernel
theorem dX12_init_129 : decode cX12_init 129 = .ok (.newarray .int, 2) := by decide +kernel
theorem dX12_init_131 : decode cX12_init 131 = .ok (.putfield 57, 3) := by decide +kernel
theorem dX12_init_134 : decode cX12_init 134 = .ok (.aload_n 0, 1) := by decide +kernel
theorem dX12_init_135 : decode cX12_init 135 = .ok (.sipush 240, 3) := by decide +kernel
theorem dX12_init_138 : decode cX12_init 138 = .ok (.newarray .int, 2) := by decide +kernel
theorem dX12_init_140 : decode cX12_init 140 = .ok (.putfield 60, 3) := by decide +kernel
theorem dX12_init_143 : decode cX12_init 143 = .ok (.aload_n 0, 1) := by decide +kernel
theorem dX12_init_144 : decode cX12_init 144 = .ok (.iconst 5, 1) := by decide +kernel
theorem dX12_init_145 : decode cX12_init 145 = .ok (.newarray .int, 2) := by decide +kernel
theorem dX12_init_147 : decode cX12_init 147 = .ok (.putfield 63, 3) := by decide +kernel
theorem dX12_init_150 : decode cX12_init 150 = .ok (.aload_n 0, 1) := by decide +kernel
theorem dX12_init_151 : decode cX12_init 151 = .ok (.bipush 60, 2) := by decide +kernel
theorem dX12_init_153 : decode cX12_init 153 = .ok (.newarray .int, 2) := by decide +kernel
theorem dX12_init_155 : decode cX12_init 155 = .ok (.putfield 66, 3) := by decide +kernel
theorem dX12_init_158 : decode cX12_init 158 = .ok (.aload_n 0, 1) := by decide +kernel
theorem dX12_init_159 : decode cX12_init 159 = .ok (.bipush 60, 2) := by decide +kernel
theorem dX12_init_161 : decode cX12_init 161 = .ok (.newarray .int, 2) := by decide +kernel
theorem dX12_init_163 : decode cX12_init 163 = .ok (.putfield 69, 3) := by decide +kernel
theorem dX12_init_166 : decode cX12_init 166 = .ok (.aload_n 0, 1) := by decide +kernel
theorem dX12_init_167 : decode cX12_init 167 = .ok (.bipush 60, 2) := by decide +kernel
theorem dX12_init_169 : decode cX12_init 169 = .ok (.newarray .int, 2) := by decide +kernel
theorem dX12_init_171 : decode cX12_init 171 = .ok (.putfield 72, 3) := by decide +kernel
theorem dX12_init_174 : decode cX12_init 174 = .ok (.aload_n 0, 1) := by decide +kernel
theorem dX12_init_175 : decode cX12_init 175 = .ok (.bipush 60, 2) := by decide +kernel
theorem dX12_init_177 : decode cX12_init 177 = .ok (.newarray .int, 2) := by decide +kernel
theorem dX12_init_179 : decode cX12_init 179 = .ok (.putfield 75, 3) := by decide +kernel
theorem dX12_init_182 : decode cX12_init 182 = .ok (.aload_n 0, 1) := by decide +kernel
theorem dX12_init_183 : decode cX12_init 183 = .ok (.bipush 60, 2) := by decide +kernel
theorem dX12_init_185 : decode cX12_init 185 = .ok (.newarray .int, 2) := by decide +kernel
theorem dX12_init_187 : decode cX12_init 187 = .ok (.putfield 78, 3) := by decide +kernel
theorem dX12_init_190 : decode cX12_init 190 = .ok (.aload_n 0, 1) := by decide +kernel
theorem dX12_init_191 : decode cX12_init 191 = .ok (.bipush 60, 2) := by decide +kernel
theorem dX12_init_193 : decode cX12_init 193 = .ok (.newarray .int, 2) := by decide +kernel
theorem dX12_init_195 : decode cX12_init 195 = .ok (.putfield 81, 3) := by decide +kernel
theorem dX12_init_198 : decode cX12_init 198 = .ok (.aload_n 0, 1) := by decide +kernel
theorem dX12_init_199 : decode cX12_init 199 = .ok (.iconst 4, 1) := by decide +kernel
theorem dX12_init_200 : decode cX12_init 200 = .ok (.newarray .int, 2) := by decide +kernel
theorem dX12_init_202 : decode cX12_init 202 = .ok (.putfield 84, 3) := by decide +kernel
theorem dX12_init_205 : decode cX12_init 205 = .ok (.aload_n 0, 1) := by decide +kernel
theorem dX12_init_206 : decode cX12_init 206 = .ok (.iconst 4, 1) := by decide +kernel
theorem dX12_init_207 : decode cX12_init 207 = .ok (.newarray .int, 2) := by decide +kernel
theorem dX12_init_209 : decode cX12_init 209 = .ok (.putfield 87, 3) := by decide +kernel
theorem dX12_init_212 : decode cX12_init 212 = .ok (.aload_n 0, 1) := by decide +kernel
theorem dX12_init_213 : decode cX12_init 213 = .ok (.iconst 4, 1) := by decide +kernel
theorem dX12_init_214 : decode cX12_init 214 = .ok (.newarray .int, 2) := by decide +kernel
theorem dX12_init_216 : decode cX12_init 216 = .ok (.putfield 90, 3) := by decide +kernel
theorem dX12_init_219 : decode cX12_init 219 = .ok (.aload_n 0, 1) := by decide +kernel
theorem dX12_init_220 : decode cX12_init 220 = .ok (.sipush 800, 3) := by decide +kernel
theorem dX12_init_223 : decode cX12_init 223 = .ok (.newarray .int, 2) := by decide +kernel
theorem dX12_init_225 : decode cX12_init 225 = .ok (.putfield 93, 3) := by decide +kernel
theorem dX12_init_228 : decode cX12_init 228 = .ok (.aload_n 0, 1) := by decide +kernel
theorem dX12_init_229 : decode cX12_init 229 = .ok (.sipush 800, 3) := by decide +kernel
theorem dX12_init_232 : decode cX12_init 232 = .ok (.newarray .boolean, 2) := by decide +kernel
theorem dX12_init_234 : decode cX12_init 234 = .ok (.putfield 96, 3) := by decide +kernel
theorem dX12_init_237 : decode cX12_init 237 = .ok (.aload_n 0, 1) := by decide +kernel
theorem dX12_init_238 : decode cX12_init 238 = .ok (.sipush 800, 3) := by decide +kernel
theorem dX12_init_241 : decode cX12_init 241 = .ok (.newarray .int, 2) := by decide +kernel
theorem dX12_init_243 : decode cX12_init 243 = .ok (.putfield 100, 3) := by decide +kernel
theorem dX12_init_246 : decode cX12_init 246 = .ok (.aload_n 0, 1) := by decide +kernel
theorem dX12_init_247 : decode cX12_init 247 = .ok (.iconst 4, 1) := by decide +kernel
theorem dX12_init_248 : decode cX12_init 248 = .ok (.newarray .int, 2) := by decide +kernel
theorem dX12_init_250 : decode cX12_init 250 = .ok (.putfield 103, 3) := by decide +kernel
theorem dX12_init_253 : decode cX12_init 253 = .ok (.aload_n 0, 1) := by decide +kernel
theorem dX12_init_254 : decode cX12_init 254 = .ok (.bipush 100, 2) := by decide +kernel
theorem dX12_init_256 : decode cX12_init 256 = .ok (.newarray .int, 2) := by decide +kernel
theorem dX12_init_258 : decode cX12_init 258 = .ok (.putfield 106, 3) := by decide +kernel
theorem dX12_init_261 : decode cX12_init 261 = .ok (.aload_n 0, 1) := by decide +kernel
theorem dX12_init_262 : decode cX12_init 262 = .ok (.bipush 100, 2) := by decide +kernel
theorem dX12_init_264 : decode cX12_init 264 = .ok (.newarray .int, 2) := by decide +kernel
theorem dX12_init_266 : decode cX12_init 266 = .ok (.putfield 109, 3) := by decide +kernel
theorem dX12_init_269 : decode cX12_init 269 = .ok (.aload_n 0, 1) := by decide +kernel
theorem dX12_init_270 : decode cX12_init 270 = .ok (.bipush 100, 2) := by decide +kernel
theorem dX12_init_272 : decode cX12_init 272 = .ok (.newarray .int, 2) := by decide +kernel
theorem dX12_init_274 : decode cX12_init 274 = .ok (.putfield 112, 3) := by decide +kernel
theorem dX12_init_277 : decode cX12_init 277 = .ok (.aload_n 0, 1) := by decide +kernel
theorem dX12_init_278 : decode cX12_init 278 = .ok (.bipush 100, 2) := by decide +kernel
theorem dX12_init_280 : decode cX12_init 280 = .ok (.newarray .int, 2) := by decide +kernel
theorem dX12_init_282 : decode cX12_init 282 = .ok (.putfield 115, 3) := by decide +kernel
theorem dX12_init_285 : decode cX12_init 285 = .ok (.aload_n 0, 1) := by decide +kernel
theorem dX12_init_286 : decode cX12_init 286 = .ok (.bipush 100, 2) := by decide +kernel
theorem dX12_init_288 : decode cX12_init 288 = .ok (.newarray .int, 2) := by decide +kernel
theorem dX12_init_290 : decode cX12_init 290 = .ok (.putfield 118, 3) := by decide +kernel
theorem dX12_init_293 : decode cX12_init 293 = .ok (.aload_n 0, 1) := by decide +kernel
theorem dX12_init_294 : decode cX12_init 294 = .ok (.bipush (-9), 2) := by decide +kernel
theorem dX12_init_296 : decode cX12_init 296 = .ok (.putfield 121, 3) := by decide +kernel
theorem dX12_init_299 : decode cX12_init 299 = .ok (.aload_n 0, 1) := by decide +kernel
theorem dX12_init_300 : decode cX12_init 300 = .ok (.bipush (-9), 2) := by decide +kernel
theorem dX12_init_302 : decode cX12_init 302 = .ok (.putfield 124, 3) := by decide +kernel
theorem dX12_init_305 : decode cX12_init 305 = .ok (.aload_n 0, 1) := by decide +kernel
theorem dX12_init_306 : decode cX12_init 306 = .ok (.sipush 3721, 3) := by decide +kernel
theorem dX12_init_309 : decode cX12_init 309 = .ok (.newarray .long, 2) := by decide +kernel
theorem dX12_init_311 : decode cX12_init 311 = .ok (.putfield 127, 3) := by decide +kernel
theorem dX12_init_314 : decode cX12_init 314 = .ok (.iconst 0, 1) := by decide +kernel
theorem dX12_init_315 : decode cX12_init 315 = .ok (.istore_n 1, 1) := by decide +kernel
theorem dX12_init_316 : decode cX12_init 316 = .ok (.iload_n 1, 1) := by decide +kernel
theorem dX12_init_317 : decode cX12_init 317 = .ok (.bipush 12, 2) := by decide +kernel
theorem dX12_init_319 : decode cX12_init 319 = .ok (.if_icmp .ge 24, 3) := by decide +kernel
theorem dX12_init_322 : decode cX12_init 322 = .ok (.aload_n 0, 1) := by decide +kernel
theorem dX12_init_323 : decode cX12_init 323 = .ok (.getfield 21, 3) := by decide +kernel
theorem dX12_init_326 : decode cX12_init 326 = .ok (.iload_n 1, 1) := by decide +kernel
theorem dX12_init_327 : decode cX12_init 327 = .ok (.bipush 60, 2) := by decide +kernel
theorem dX12_init_329 : decode cX12_init 329 = .ok (.iastore, 1) := by decide +kernel
theorem dX12_init_330 : decode cX12_init 330 = .ok (.aload_n 0, 1) := by decide +kernel
theorem dX12_init_331 : decode cX12_init 331 = .ok (.getfield 48, 3) := by decide +kernel
theorem dX12_init_334 : decode cX12_init 334 = .ok (.iload_n 1, 1) := by decide +kernel
theorem dX12_init_335 : decode cX12_init 335 = .ok (.iconst (-1), 1) := by decide +kernel
theorem dX12_init_336 : decode cX12_init 336 = .ok (.iastore, 1) := by decide +kernel
theorem dX12_init_337 : decode cX12_init 337 = .ok (.iinc 1 1, 3) := by decide +kernel
theorem dX12_init_340 : decode cX12_init 340 = .ok (.goto (-24), 3) := by decide +kernel
theorem dX12_init_343 : decode cX12_init 343 = .ok (.iconst 0, 1) := by decide +kernel
theorem dX12_init_344 : decode cX12_init 344 = .ok (.istore_n 1, 1) := by decide +kernel
theorem dX12_init_345 : decode cX12_init 345 = .ok (.iload_n 1, 1) := by decide +kernel
theorem dX12_init_346 : decode cX12_init 346 = .ok (.sipush 144, 3) := by decide +kernel
theorem dX12_init_349 : decode cX12_init 349 = .ok (.if_icmp .ge 16, 3) := by decide +kernel
theorem dX12_init_352 : decode cX12_init 352 = .ok (.aload_n 0, 1) := by decide +kernel
theorem dX12_init_353 : decode cX12_init 353 = .ok (.getfield 24, 3) := by decide +kernel
theorem dX12_init_356 : decode cX12_init 356 = .ok (.iload_n 1, 1) := by decide +kernel
theorem dX12_init_357 : decode cX12_init 357 = .ok (.iconst (-1), 1) := by decide +kernel
theorem dX12_init_358 : decode cX12_init 358 = .ok (.iastore, 1) := by decide +kernel
theorem dX12_init_359 : decode cX12_init 359 = .ok (.iinc 1 1, 3) := by decide +kernel
theorem dX12_init_362 : decode cX12_init 362 = .ok (.goto (-17), 3) := by decide +kernel
theorem dX12_init_365 : decode cX12_init 365 = .ok (.iconst 0, 1) := by decide +kernel
theorem dX12_init_366 : decode cX12_init 366 = .ok (.istore_n 1, 1) := by decide +kernel
theorem dX12_init_367 : decode cX12_init 367 = .ok (.iload_n 1, 1) := by decide +kernel
theorem dX12_init_368 : decode cX12_init 368 = .ok (.iconst 4, 1) := by decide +kernel
theorem dX12_init_369 : decode cX12_init 369 = .ok (.if_icmp .ge 52, 3) := by decide +kernel
theorem dX12_init_372 : decode cX12_init 372 = .ok (.aload_n 0, 1) := by decide +kernel
theorem dX12_init_373 : decode cX12_init 373 = .ok (.getfield 84, 3) := by decide +kernel
theorem dX12_init_376 : decode cX12_init 376 = .ok (.iload_n 1, 1) := by decide +kernel
theorem dX12_init_377 : decode cX12_init 377 = .ok (.iconst (-1), 1) := by decide +kernel
theorem dX12_init_378 : decode cX12_init 378 = .ok (.iastore, 1) := by decide +kernel
theorem dX12_init_379 : decode cX12_init 379 = .ok (.aload_n 0, 1) := by decide +kernel
theorem dX12_init_380 : decode cX12_init 380 = .ok (.getfield 87, 3) := by decide +kernel
theorem dX12_init_383 : decode cX12_init 383 = .ok (.iload_n 1, 1) := by decide +kernel
theorem dX12_init_384 : decode cX12_init 384 = .ok (.iconst (-1), 1) := by decide +kernel
theorem dX12_init_385 : decode cX12_init 385 = .ok (.iastore, 1) := by decide +kernel
theorem dX12_init_386 : decode cX12_init 386 = .ok (.iconst 0, 1) := by decide +kernel
theorem dX12_init_387 : decode cX12_init 387 = .ok (.istore_n 2, 1) := by decide +kernel
theorem dX12_init_388 : decode cX12_init 388 = .ok (.iload_n 2, 1) := by decide +kernel
theorem dX12_init_389 : decode cX12_init 389 = .ok (.bipush 8, 2) := by decide +kernel
theorem dX12_init_391 : decode cX12_init 391 = .ok (.if_icmp .ge 24, 3) := by decide +kernel
theorem dX12_init_394 : decode cX12_init 394 = .ok (.aload_n 0, 1) := by decide +kernel
theorem dX12_init_395 : decode cX12_init 395 = .ok (.getfield 57, 3) := by decide +kernel
theorem dX12_init_398 : decode cX12_init 398 = .ok (.bipush 8, 2) := by decide +kernel
theorem dX12_init_400 : decode cX12_init 400 = .ok (.iload_n 1, 1) := by decide +kernel
theorem dX12_init_401 : decode cX12_init 401 = .ok (.imul, 1) := by decide +kernel
theorem dX12_init_402 : decode cX12_init 402 = .ok (.iload_n 2, 1) := by decide +kernel
theorem dX12_init_403 : decode cX12_init 403 = .ok (.iadd, 1) := by decide +kernel
theorem dX12_init_404 : decode cX12_init 404 = .ok (.iload_n 2, 1) := by decide +kernel
theorem dX12_init_405 : decode cX12_init 405 = .ok (.invokestatic 131, 3) := by decide +kernel
theorem dX12_init_408 : decode cX12_init 408 = .ok (.iastore, 1) := by decide +kernel
theorem dX12_init_409 : decode cX12_init 409 = .ok (.iinc 2 1, 3) := by decide +kernel
theorem dX12_init_412 : decode cX12_init 412 = .ok (.goto (-24), 3) := by decide +kernel
theorem dX12_init_415 : decode cX12_init 415 = .ok (.iinc 1 1, 3) := by decide +kernel
theorem dX12_init_418 : decode cX12_init 418 = .ok (.goto (-51), 3) := by decide +kernel
theorem dX12_init_421 : decode cX12_init 421 = .ok (.aload_n 0, 1) := by decide +kernel
theorem dX12_init_422 : decode cX12_init 422 = .ok (.invokevirtual 135, 3) := by decide +kernel
theorem dX12_init_425 : decode cX12_init 425 = .ok (.return_, 1) := by decide +kernel
theorem dX12_in_0 : decode cX12_in 0 = .ok (.iload_n 0, 1) := by decide +kernel
theorem dX12_in_1 : decode cX12_in 1 = .ok (.iload_n 1, 1) := by decide +kernel
theorem dX12_in_2 : decode cX12_in 2 = .ok (.if_icmp .lt 12, 3) := by decide +kernel
theorem dX12_in_5 : decode cX12_in 5 = .ok (.iload_n 0, 1) := by decide +kernel
theorem dX12_in_6 : decode cX12_in 6 = .ok (.iload_n 2, 1) := by decide +kernel
theorem dX12_in_7 : decode cX12_in 7 = .ok (.if_icmp .gt 7, 3) := by decide +kernel
theorem dX12_in_10 : decode cX12_in 10 = .ok (.iconst 1, 1) := by decide +kernel
theorem dX12_in_11 : decode cX12_in 11 = .ok (.goto 4, 3) := by decide +kernel
theorem dX12_in_14 : decode cX12_in 14 = .ok (.iconst 0, 1) := by decide +kernel
theorem dX12_in_15 : decode cX12_in 15 = .ok (.ireturn, 1) := by decide +kernel
theorem dX12_feed_0 : decode cX12_feed 0 = .ok (.aload_n 0, 1) := by decide +kernel
theorem dX12_feed_1 : decode cX12_feed 1 = .ok (.getfield 138, 3) := by decide +kernel
theorem dX12_feed_4 : decode cX12_feed 4 = .ok (.bipush 20, 2) := by decide +kernel
theorem dX12_feed_6 : decode cX12_feed 6 = .ok (.iadd, 1) := by decide +kernel
theorem dX12_feed_7 : decode cX12_feed 7 = .ok (.sipush 800, 3) := by decide +kernel
theorem dX12_feed_10 : decode cX12_feed 10 = .ok (.if_icmp .le 6, 3) := by decide +kernel
theorem dX12_feed_13 : decode cX12_feed 13 = .ok (.bipush (-3), 2) := by decide +kernel
theorem dX12_feed_15 : decode cX12_feed 15 = .ok (.ireturn, 1) := by decide +kernel
theorem dX12_feed_16 : decode cX12_feed 16 = .ok (.iconst 0, 1) := by decide +kernel
theorem dX12_feed_17 : decode cX12_feed 17 = .ok (.istore 6, 2) := by decide +kernel
theorem dX12_feed_19 : decode cX12_feed 19 = .ok (.iload 6, 2) := by decide +kernel
theorem dX12_feed_21 : decode cX12_feed 21 = .ok (.iconst 5, 1) := by decide +kernel
theorem dX12_feed_22 : decode cX12_feed 22 = .ok (.if_icmp .ge 93, 3) := by decide +kernel
theorem dX12_feed_25 : decode cX12_feed 25 = .ok (.iload 6, 2) := by decide +kernel
theorem dX12_feed_27 : decode cX12_feed 27 = .ok (.ifCond .ne 7, 3) := by decide +kernel
theorem dX12_feed_30 : decode cX12_feed 30 = .ok (.iload_n 1, 1) := by decide +kernel
theorem dX12_feed_31 : decode cX12_feed 31 = .ok (.goto 36, 3) := by decide +kernel
theorem dX12_feed_34 : decode cX12_feed 34 = .ok (.iload 6, 2) := by decide +kernel
theorem dX12_feed_36 : decode cX12_feed 36 = .ok (.iconst 1, 1) := by decide +kernel
theorem dX12_feed_37 : decode cX12_feed 37 = .ok (.if_icmp .ne 7, 3) := by decide +kernel
theorem dX12_feed_40 : decode cX12_feed 40 = .ok (.iload_n 2, 1) := by decide +kernel
theorem dX12_feed_41 : decode cX12_feed 41 = .ok (.goto 26, 3) := by decide +kernel
theorem dX12_feed_44 : decode cX12_feed 44 = .ok (.iload 6, 2) := by decide +kernel
theorem dX12_feed_46 : decode cX12_feed 46 = .ok (.iconst 2, 1) := by decide +kernel
theorem dX12_feed_47 : decode cX12_feed 47 = .ok (.if_icmp .ne 7, 3) := by decide +kernel
theorem dX12_feed_50 : decode cX12_feed 50 = .ok (.iload_n 3, 1) := by decide +kernel
theorem dX12_feed_51 : decode cX12_feed 51 = .ok (.goto 16, 3) := by decide +kernel
theorem dX12_feed_54 : decode cX12_feed 54 = .ok (.iload 6, 2) := by decide +kernel
theorem dX12_feed_56 : decode cX12_feed 56 = .ok (.iconst 3, 1) := by decide +kernel
theorem dX12_feed_57 : decode cX12_feed 57 = .ok (.if_icmp .ne 8, 3) := by decide +kernel
theorem dX12_feed_60 : decode cX12_feed 60 = .ok (.iload 4, 2) := by decide +kernel
theorem dX12_feed_62 : decode cX12_feed 62 = .ok (.goto 5, 3) := by decide +kernel
theorem dX12_feed_65 : decode cX12_feed 65 = .ok (.iload 5, 2) := by decide +kernel
theorem dX12_feed_67 : decode cX12_feed 67 = .ok (.istore 7, 2) := by decide +kernel
theorem dX12_feed_69 : decode cX12_feed 69 = .ok (.bipush 24, 2) := by decide +kernel
theorem dX12_feed_71 : decode cX12_feed 71 = .ok (.istore 8, 2) := by decide +kernel
theorem dX12_feed_73 : decode cX12_feed 73 = .ok (.iload 8, 2) := by decide +kernel
theorem dX12_feed_75 : decode cX12_feed 75 = .ok (.ifCond .lt 34, 3) := by decide +kernel
theorem dX12_feed_78 : decode cX12_feed 78 = .ok (.aload_n 0, 1) := by decide +kernel
theorem dX12_feed_79 : decode cX12_feed 79 = .ok (.getfield 7, 3) := by decide +kernel
theorem dX12_feed_82 : decode cX12_feed 82 = .ok (.aload_n 0, 1) := by decide +kernel
theorem dX12_feed_83 : decode cX12_feed 83 = .ok (.getfield 138, 3) := by decide +kernel
theorem dX12_feed_86 : decode cX12_feed 86 = .ok (.iload 7, 2) := by decide +kernel
theorem dX12_feed_88 : decode cX12_feed 88 = .ok (.iload 8, 2) := by decide +kernel
theorem dX12_feed_90 : decode cX12_feed 90 = .ok (.ishr, 1) := by decide +kernel
theorem dX12_feed_91 : decode cX12_feed 91 = .ok (.i2b, 1) := by decide +kernel
theorem dX12_feed_92 : decode cX12_feed 92 = .ok (.bastore, 1) := by decide +kernel
theorem dX12_feed_93 : decode cX12_feed 93 = .ok (.aload_n 0, 1) := by decide +kernel
theorem dX12_feed_94 : decode cX12_feed 94 = .ok (.dup, 1) := by decide +kernel
theorem dX12_feed_95 : decode cX12_feed 95 = .ok (.getfield 138, 3) := by decide +kernel
theorem dX12_feed_98 : decode cX12_feed 98 = .ok (.iconst 1, 1) := by decide +kernel
theorem dX12_feed_99 : decode cX12_feed 99 = .ok (.iadd, 1) := by decide +kernel
theorem dX12_feed_100 : decode cX12_feed 100 = .ok (.putfield 138, 3) := by decide +kernel
theorem dX12_feed_103 : decode cX12_feed 103 = .ok (.iinc 8 (-8), 3) := by decide +kernel
theorem dX12_feed_106 : decode cX12_feed 106 = .ok (.goto (-33), 3) := by decide +kernel
theorem dX12_feed_109 : decode cX12_feed 109 = .ok (.iinc 6 1, 3) := by decide +kernel
theorem dX12_feed_112 : decode cX12_feed 112 = .ok (.goto (-93), 3) := by decide +kernel
theorem dX12_feed_115 : decode cX12_feed 115 = .ok (.aload_n 0, 1) := by decide +kernel
theorem dX12_feed_116 : decode cX12_feed 116 = .ok (.getfield 138, 3) := by decide +kernel
theorem dX12_feed_119 : decode cX12_feed 119 = .ok (.ireturn, 1) := by decide +kernel
theorem dX12_end_0 : decode cX12_end 0 = .ok (.iload_n 1, 1) := by decide +kernel
theorem dX12_end_1 : decode cX12_end 1 = .ok (.ifCond .lt 11, 3) := by decide +kernel
theorem dX12_end_4 : decode cX12_end 4 = .ok (.iload_n 1, 1) := by decide +kernel
theorem dX12_end_5 : decode cX12_end 5 = .ok (.aload_n 0, 1) := by decide +kernel
theorem dX12_end_6 : decode cX12_end 6 = .ok (.getfield 138, 3) := by decide +kernel
theorem dX12_end_9 : decode cX12_end 9 = .ok (.if_icmp .le 5, 3) := by decide +kernel
theorem dX12_end_12 : decode cX12_end 12 = .ok (.iconst (-1), 1) := by decide +kernel
theorem dX12_end_13 : decode cX12_end 13 = .ok (.ireturn, 1) := by decide +kernel
theorem dX12_end_14 : decode cX12_end 14 = .ok (.aload_n 0, 1) := by decide +kernel
theorem dX12_end_15 : decode cX12_end 15 = .ok (.iload_n 1, 1) := by decide +kernel
theorem dX12_end_16 : decode cX12_end 16 = .ok (.putfield 138, 3) := by decide +kernel
theorem dX12_end_19 : decode cX12_end 19 = .ok (.iload_n 1, 1) := by decide +kernel
theorem dX12_end_20 : decode cX12_end 20 = .ok (.ireturn, 1) := by decide +kernel
theorem dX12_see_0 : decode cX12_see 0 = .ok (.iload_n 1, 1) := by decide +kernel
theorem dX12_see_1 : decode cX12_see 1 = .ok (.aload_n 0, 1) := by decide +kernel
theorem dX12_see_2 : decode cX12_see 2 = .ok (.getfield 141, 3) := by decide +kernel
theorem dX12_see_5 : decode cX12_see 5 = .ok (.if_icmp .ge 16, 3) := by decide +kernel
theorem dX12_see_8 : decode cX12_see 8 = .ok (.aload_n 0, 1) := by decide +kernel
theorem dX12_see_9 : decode cX12_see 9 = .ok (.getfield 7, 3) := by decide +kernel
theorem dX12_see_12 : decode cX12_see 12 = .ok (.iload_n 1, 1) := by decide +kernel
theorem dX12_see_13 : decode cX12_see 13 = .ok (.baload, 1) := by decide +kernel
theorem dX12_see_14 : decode cX12_see 14 = .ok (.sipush 255, 3) := by decide +kernel
theorem dX12_see_17 : decode cX12_see 17 = .ok (.iand, 1) := by decide +kernel
theorem dX12_see_18 : decode cX12_see 18 = .ok (.goto 4, 3) := by decide +kernel
theorem dX12_see_21 : decode cX12_see 21 = .ok (.iconst (-1), 1) := by decide +kernel
theorem dX12_see_22 : decode cX12_see 22 = .ok (.ireturn, 1) := by decide +kernel
theorem dX12_isSmall_0 : decode cX12_isSmall 0 = .ok (.iload_n 0, 1) := by decide +kernel
theorem dX12_isSmall_1 : decode cX12_isSmall 1 = .ok (.bipush 97, 2) := by decide +kernel
theorem dX12_isSmall_3 : decode cX12_isSmall 3 = .ok (.if_icmp .lt 13, 3) := by decide +kernel
theorem dX12_isSmall_6 : decode cX12_isSmall 6 = .ok (.iload_n 0, 1) := by decide +kernel
theorem dX12_isSmall_7 : decode cX12_isSmall 7 = .ok (.bipush 122, 2) := by decide +kernel
theorem dX12_isSmall_9 : decode cX12_isSmall 9 = .ok (.if_icmp .gt 7, 3) := by decide +kernel
theorem dX12_isSmall_12 : decode cX12_isSmall 12 = .ok (.iconst 1, 1) := by decide +kernel
theorem dX12_isSmall_13 : decode cX12_isSmall 13 = .ok (.goto 4, 3) := by decide +kernel
theorem dX12_isSmall_16 : decode cX12_isSmall 16 = .ok (.iconst 0, 1) := by decide +kernel
theorem dX12_isSmall_17 : decode cX12_isSmall 17 = .ok (.ireturn, 1) := by decide +kernel
theorem dX12_isDigit_0 : decode cX12_isDigit 0 = .ok (.iload_n 0, 1) := by decide +kernel
theorem dX12_isDigit_1 : decode cX12_isDigit 1 = .ok (.bipush 48, 2) := by decide +kernel
theorem dX12_isDigit_3 : decode cX12_isDigit 3 = .ok (.if_icmp .lt 13, 3) := by decide +kernel
theorem dX12_isDigit_6 : decode cX12_isDigit 6 = .ok (.iload_n 0, 1) := by decide +kernel
theorem dX12_isDigit_7 : decode cX12_isDigit 7 = .ok (.bipush 57, 2) := by decide +kernel
theorem dX12_isDigit_9 : decode cX12_isDigit 9 = .ok (.if_icmp .gt 7, 3) := by decide +kernel
theorem dX12_isDigit_12 : decode cX12_isDigit 12 = .ok (.iconst 1, 1) := by decide +kernel
theorem dX12_isDigit_13 : decode cX12_isDigit 13 = .ok (.goto 4, 3) := by decide +kernel
theorem dX12_isDigit_16 : decode cX12_isDigit 16 = .ok (.iconst 0, 1) := by decide +kernel
theorem dX12_isDigit_17 : decode cX12_isDigit 17 = .ok (.ireturn, 1) := by decide +kernel
theorem dX12_keyAt_0 : decode cX12_keyAt 0 = .ok (.iconst 0, 1) := by decide +kernel
theorem dX12_keyAt_1 : decode cX12_keyAt 1 = .ok (.istore_n 3, 1) := by decide +kernel
theorem dX12_keyAt_2 : decode cX12_keyAt 2 = .ok (.iconst 0, 1) := by decide +kernel
theorem dX12_keyAt_3 : decode cX12_keyAt 3 = .ok (.istore 4, 2) := by decide +kernel
theorem dX12_keyAt_5 : decode cX12_keyAt 5 = .ok (.iconst 0, 1) := by decide +kernel
theorem dX12_keyAt_6 : decode cX12_keyAt 6 = .ok (.istore 5, 2) := by decide +kernel
theorem dX12_keyAt_8 : decode cX12_keyAt 8 = .ok (.iload 5, 2) := by decide +kernel
theorem dX12_keyAt_10 : decode cX12_keyAt 10 = .ok (.ldc 144, 2) := by decide +kernel
theorem dX12_keyAt_12 : decode cX12_keyAt 12 = .ok (.invokevirtual 146, 3) := by decide +kernel
theorem dX12_keyAt_15 : decode cX12_keyAt 15 = .ok (.if_icmp .ge 104, 3) := by decide +kernel
theorem dX12_keyAt_18 : decode cX12_keyAt 18 = .ok (.ldc 144, 2) := by decide +kernel
theorem dX12_keyAt_20 : decode cX12_keyAt 20 = .ok (.iload 5, 2) := by decide +kernel
theorem dX12_keyAt_22 : decode cX12_keyAt 22 = .ok (.invokevirtual 152, 3) := by decide +kernel
theorem dX12_keyAt_25 : decode cX12_keyAt 25 = .ok (.bipush 32, 2) := by decide +kernel
theorem dX12_keyAt_27 : decode cX12_keyAt 27 = .ok (.if_icmp .eq 6, 3) := by decide +kernel
theorem dX12_keyAt_30 : decode cX12_keyAt 30 = .ok (.goto 83, 3) := by decide +kernel
theorem dX12_keyAt_33 : decode cX12_keyAt 33 = .ok (.iload 5, 2) := by decide +kernel
theorem dX12_keyAt_35 : decode cX12_keyAt 35 = .ok (.iload 4, 2) := by decide +kernel
theorem dX12_keyAt_37 : decode cX12_keyAt 37 = .ok (.isub, 1) := by decide +kernel
theorem dX12_keyAt_38 : decode cX12_keyAt 38 = .ok (.iload_n 2, 1) := by decide +kernel
theorem dX12_keyAt_39 : decode cX12_keyAt 39 = .ok (.if_icmp .ne 7, 3) := by decide +kernel
theorem dX12_keyAt_42 : decode cX12_keyAt 42 = .ok (.iconst 1, 1) := by decide +kernel
theorem dX12_keyAt_43 : decode cX12_keyAt 43 = .ok (.goto 4, 3) := by decide +kernel
theorem dX12_keyAt_46 : decode cX12_keyAt 46 = .ok (.iconst 0, 1) := by decide +kernel
theorem dX12_keyAt_47 : decode cX12_keyAt 47 = .ok (.istore 6, 2) := by decide +kernel
theorem dX12_keyAt_49 : decode cX12_keyAt 49 = .ok (.iconst 0, 1) := by decide +kernel
theorem dX12_keyAt_50 : decode cX12_keyAt 50 = .ok (.istore 7, 2) := by decide +kernel
theorem dX12_keyAt_52 : decode cX12_keyAt 52 = .ok (.iload 7, 2) := by decide +kernel
theorem dX12_keyAt_54 : decode cX12_keyAt 54 = .ok (.iload_n 2, 1) := by decide +kernel
theorem dX12_keyAt_55 : decode cX12_keyAt 55 = .ok (.if_icmp .ge 42, 3) := by decide +kernel
theorem dX12_keyAt_58 : decode cX12_keyAt 58 = .ok (.iload 6, 2) := by decide +kernel
theorem dX12_keyAt_60 : decode cX12_keyAt 60 = .ok (.ifCond .eq 37, 3) := by decide +kernel
theorem dX12_keyAt_63 : decode cX12_keyAt 63 = .ok (.ldc 144, 2) := by decide +kernel
theorem dX12_keyAt_65 : decode cX12_keyAt 65 = .ok (.iload 4, 2) := by decide +kernel
theorem dX12_keyAt_67 : decode cX12_keyAt 67 = .ok (.iload 7, 2) := by decide +kernel
theorem dX12_keyAt_69 : decode cX12_keyAt 69 = .ok (.iadd, 1) := by decide +kernel
theorem dX12_keyAt_70 : decode cX12_keyAt 70 = .ok (.invokevirtual 152, 3) := by decide +kernel
theorem dX12_keyAt_73 : decode cX12_keyAt 73 = .ok (.aload_n 0, 1) := by decide +kernel
theorem dX12_keyAt_74 : decode cX12_keyAt 74 = .ok (.iload_n 1, 1) := by decide +kernel
theorem dX12_keyAt_75 : decode cX12_keyAt 75 = .ok (.iload 7, 2) := by decide +kernel
theorem dX12_keyAt_77 : decode cX12_keyAt 77 = .ok (.iadd, 1) := by decide +kernel
theorem dX12_keyAt_78 : decode cX12_keyAt 78 = .ok (.invokevirtual 156, 3) := by decide +kernel
theorem dX12_keyAt_81 : decode cX12_keyAt 81 = .ok (.if_icmp .ne 7, 3) := by decide +kernel
theorem dX12_keyAt_84 : decode cX12_keyAt 84 = .ok (.iconst 1, 1) := by decide +kernel
theorem dX12_keyAt_85 : decode cX12_keyAt 85 = .ok (.goto 4, 3) := by decide +kernel
theorem dX12_keyAt_88 : decode cX12_keyAt 88 = .ok (.iconst 0, 1) := by decide +kernel
theorem dX12_keyAt_89 : decode cX12_keyAt 89 = .ok (.istore 6, 2) := by decide +kernel
theorem dX12_keyAt_91 : decode cX12_keyAt 91 = .ok (.iinc 7 1, 3) := by decide +kernel
theorem dX12_keyAt_94 : decode cX12_keyAt 94 = .ok (.goto (-42), 3) := by decide +kernel
theorem dX12_keyAt_97 : decode cX12_keyAt 97 = .ok (.iload 6, 2) := by decide +kernel
theorem dX12_keyAt_99 : decode cX12_keyAt 99 = .ok (.ifCond .eq 5, 3) := by decide +kernel
theorem dX12_keyAt_102 : decode cX12_keyAt 102 = .ok (.iload_n 3, 1) := by decide +kernel
theorem dX12_keyAt_103 : decode cX12_keyAt 103 = .ok (.ireturn, 1) := by decide +kernel
theorem dX12_keyAt_104 : decode cX12_keyAt 104 = .ok (.iinc 3 1, 3) := by decide +kernel
theorem dX12_keyAt_107 : decode cX12_keyAt 107 = .ok (.iload 5, 2) := by decide +kernel
theorem dX12_keyAt_109 : decode cX12_keyAt 109 = .ok (.iconst 1, 1) := by decide +kernel
theorem dX12_keyAt_110 : decode cX12_keyAt 110 = .ok (.iadd, 1) := by decide +kernel
theorem dX12_keyAt_111 : decode cX12_keyAt 111 = .ok (.istore 4, 2) := by decide +kernel
theorem dX12_keyAt_113 : decode cX12_keyAt 113 = .ok (.iinc 5 1, 3) := by decide +kernel
theorem dX12_keyAt_116 : decode cX12_keyAt 116 = .ok (.goto (-108), 3) := by decide +kernel
theorem dX12_keyAt_119 : decode cX12_keyAt 119 = .ok (.iconst (-1), 1) := by decide +kernel
theorem dX12_keyAt_120 : decode cX12_keyAt 120 = .ok (.ireturn, 1) := by decide +kernel
theorem dX12_scan_0 : decode cX12_scan 0 = .ok (.aload_n 0, 1) := by decide +kernel
theorem dX12_scan_1 : decode cX12_scan 1 = .ok (.getfield 159, 3) := by decide +kernel
theorem dX12_scan_4 : decode cX12_scan 4 = .ok (.istore_n 1, 1) := by decide +kernel
theorem dX12_scan_5 : decode cX12_scan 5 = .ok (.aload_n 0, 1) := by decide +kernel
theorem dX12_scan_6 : decode cX12_scan 6 = .ok (.iload_n 1, 1) := by decide +kernel
theorem dX12_scan_7 : decode cX12_scan 7 = .ok (.invokevirtual 156, 3) := by decide +kernel
theorem dX12_scan_10 : decode cX12_scan 10 = .ok (.bipush 32, 2) := by decide +kernel
theorem dX12_scan_12 : decode cX12_scan 12 = .ok (.if_icmp .eq 13, 3) := by decide +kernel
theorem dX12_scan_15 : decode cX12_scan 15 = .ok (.aload_n 0, 1) := by decide +kernel
theorem dX12_scan_16 : decode cX12_scan 16 = .ok (.iload_n 1, 1) := by decide +kernel
theorem dX12_scan_17 : decode cX12_scan 17 = .ok (.invokevirtual 156, 3) := by decide +kernel
theorem dX12_scan_20 : decode cX12_scan 20 = .ok (.bipush 10, 2) := by decide +kernel
theorem dX12_scan_22 : decode cX12_scan 22 = .ok (.if_icmp .ne 9, 3) := by decide +kernel
theorem dX12_scan_25 : decode cX12_scan 25 = .ok (.iinc 1 1, 3) := by decide +kernel
theorem dX12_scan_28 : decode cX12_scan 28 = .ok (.goto (-23), 3) := by decide +kernel
theorem dX12_scan_31 : decode cX12_scan 31 = .ok (.aload_n 0, 1) := by decide +kernel
theorem dX12_scan_32 : decode cX12_scan 32 = .ok (.iload_n 1, 1) := by decide +kernel
theorem dX12_scan_33 : decode cX12_scan 33 = .ok (.putfield 162, 3) := by decide +kernel
theorem dX12_scan_36 : decode cX12_scan 36 = .ok (.aload_n 0, 1) := by decide +kernel
theorem dX12_scan_37 : decode cX12_scan 37 = .ok (.iload_n 1, 1) := by decide +kernel
theorem dX12_scan_38 : decode cX12_scan 38 = .ok (.invokevirtual 156, 3) := by decide +kernel
theorem dX12_scan_41 : decode cX12_scan 41 = .ok (.istore_n 2, 1) := by decide +kernel
theorem dX12_scan_42 : decode cX12_scan 42 = .ok (.iload_n 1, 1) := by decide +kernel
theorem dX12_scan_43 : decode cX12_scan 43 = .ok (.iconst 1, 1) := by decide +kernel
theorem dX12_scan_44 : decode cX12_scan 44 = .ok (.iadd, 1) := by decide +kernel
theorem dX12_scan_45 : decode cX12_scan 45 = .ok (.istore_n 3, 1) := by decide +kernel
theorem dX12_scan_46 : decode cX12_scan 46 = .ok (.iload_n 2, 1) := by decide +kernel
theorem dX12_scan_47 : decode cX12_scan 47 = .ok (.iconst (-1), 1) := by decide +kernel
theorem dX12_scan_48 : decode cX12_scan 48 = .ok (.if_icmp .ne 13, 3) := by decide +kernel
theorem dX12_scan_51 : decode cX12_scan 51 = .ok (.aload_n 0, 1) := by decide +kernel
theorem dX12_scan_52 : decode cX12_scan 52 = .ok (.iconst 4, 1) := by decide +kernel
theorem dX12_scan_53 : decode cX12_scan 53 = .ok (.putfield 165, 3) := by decide +kernel
theorem dX12_scan_56 : decode cX12_scan 56 = .ok (.iload_n 1, 1) := by decide +kernel
theorem dX12_scan_57 : decode cX12_scan 57 = .ok (.istore_n 3, 1) := by decide +kernel
theorem dX12_scan_58 : decode cX12_scan 58 = .ok (.goto 159, 3) := by decide +kernel
theorem dX12_scan_61 : decode cX12_scan 61 = .ok (.iload_n 2, 1) := by decide +kernel

theorem dX0_init_0 : decode cX0_init 0 = .ok (.aload_n 0, 1) := by decide +kernel
theorem dX0_init_1 : decode cX0_init 1 = .ok (.invokespecial 3, 3) := by decide +kernel
theorem dX0_init_4 : decode cX0_init 4 = .ok (.aload_n 0, 1) := by decide +kernel
theorem dX0_init_5 : decode cX0_init 5 = .ok (.getstatic 9, 3) := by decide +kernel
theorem dX0_init_8 : decode cX0_init 8 = .ok (.invokevirtual 13, 3) := by decide +kernel
theorem dX0_init_11 : decode cX0_init 11 = .ok (.checkcast 14, 3) := by decide +kernel
theorem dX0_init_14 : decode cX0_init 14 = .ok (.putfield 18, 3) := by decide +kernel
theorem dX0_init_17 : decode cX0_init 17 = .ok (.aload_n 0, 1) := by decide +kernel
theorem dX0_init_18 : decode cX0_init 18 = .ok (.bipush 6, 2) := by decide +kernel
theorem dX0_init_20 : decode cX0_init 20 = .ok (.anewarray 23, 3) := by decide +kernel
theorem dX0_init_23 : decode cX0_init 23 = .ok (.putfield 25, 3) := by decide +kernel
theorem dX0_init_26 : decode cX0_init 26 = .ok (.return_, 1) := by decide +kernel
theorem dX0_find_0 : decode cX0_find 0 = .ok (.iload_n 1, 1) := by decide +kernel
theorem dX0_find_1 : decode cX0_find 1 = .ok (.ifCond .lt 17, 3) := by decide +kernel
theorem dX0_find_4 : decode cX0_find 4 = .ok (.iload_n 1, 1) := by decide +kernel
theorem dX0_find_5 : decode cX0_find 5 = .ok (.aload_n 0, 1) := by decide +kernel
theorem dX0_find_6 : decode cX0_find 6 = .ok (.getfield 29, 3) := by decide +kernel
theorem dX0_find_9 : decode cX0_find 9 = .ok (.if_icmp .ge 9, 3) := by decide +kernel
theorem dX0_find_12 : decode cX0_find 12 = .ok (.iload_n 1, 1) := by decide +kernel
theorem dX0_find_13 : decode cX0_find 13 = .ok (.bipush 6, 2) := by decide +kernel
theorem dX0_find_15 : decode cX0_find 15 = .ok (.if_icmp .lt 5, 3) := by decide +kernel
theorem dX0_find_18 : decode cX0_find 18 = .ok (.aconst_null, 1) := by decide +kernel
theorem dX0_find_19 : decode cX0_find 19 = .ok (.areturn, 1) := by decide +kernel
theorem dX0_find_20 : decode cX0_find 20 = .ok (.aload_n 0, 1) := by decide +kernel
theorem dX0_find_21 : decode cX0_find 21 = .ok (.getfield 25, 3) := by decide +kernel
theorem dX0_find_24 : decode cX0_find 24 = .ok (.iload_n 1, 1) := by decide +kernel
theorem dX0_find_25 : decode cX0_find 25 = .ok (.aaload, 1) := by decide +kernel
theorem dX0_find_26 : decode cX0_find 26 = .ok (.areturn, 1) := by decide +kernel
theorem dX0_rowOf_0 : decode cX0_rowOf 0 = .ok (.aload_n 0, 1) := by decide +kernel
theorem dX0_rowOf_1 : decode cX0_rowOf 1 = .ok (.getfield 25, 3) := by decide +kernel
theorem dX0_rowOf_4 : decode cX0_rowOf 4 = .ok (.iload_n 1, 1) := by decide +kernel
theorem dX0_rowOf_5 : decode cX0_rowOf 5 = .ok (.aaload, 1) := by decide +kernel
theorem dX0_rowOf_6 : decode cX0_rowOf 6 = .ok (.astore_n 2, 1) := by decide +kernel
theorem dX0_rowOf_7 : decode cX0_rowOf 7 = .ok (.aload_n 2, 1) := by decide +kernel
theorem dX0_rowOf_8 : decode cX0_rowOf 8 = .ok (.ifnull 5, 3) := by decide +kernel
theorem dX0_rowOf_11 : decode cX0_rowOf 11 = .ok (.aload_n 2, 1) := by decide +kernel
theorem dX0_rowOf_12 : decode cX0_rowOf 12 = .ok (.areturn, 1) := by decide +kernel
theorem dX0_rowOf_13 : decode cX0_rowOf 13 = .ok (.new 23, 3) := by decide +kernel
theorem dX0_rowOf_16 : decode cX0_rowOf 16 = .ok (.dup, 1) := by decide +kernel
theorem dX0_rowOf_17 : decode cX0_rowOf 17 = .ok (.invokespecial 33, 3) := by decide +kernel
theorem dX0_rowOf_20 : decode cX0_rowOf 20 = .ok (.astore_n 3, 1) := by decide +kernel
theorem dX0_rowOf_21 : decode cX0_rowOf 21 = .ok (.aload_n 0, 1) := by decide +kernel
theorem dX0_rowOf_22 : decode cX0_rowOf 22 = .ok (.getfield 25, 3) := by decide +kernel
theorem dX0_rowOf_25 : decode cX0_rowOf 25 = .ok (.iload_n 1, 1) := by decide +kernel
theorem dX0_rowOf_26 : decode cX0_rowOf 26 = .ok (.aload_n 3, 1) := by decide +kernel
theorem dX0_rowOf_27 : decode cX0_rowOf 27 = .ok (.aastore, 1) := by decide +kernel
theorem dX0_rowOf_28 : decode cX0_rowOf 28 = .ok (.aload_n 3, 1) := by decide +kernel
theorem dX0_rowOf_29 : decode cX0_rowOf 29 = .ok (.areturn, 1) := by decide +kernel
theorem dX0_become_0 : decode cX0_become 0 = .ok (.aload_n 0, 1) := by decide +kernel
theorem dX0_become_1 : decode cX0_become 1 = .ok (.aload_n 1, 1) := by decide +kernel
theorem dX0_become_2 : decode cX0_become 2 = .ok (.getfield 34, 3) := by decide +kernel
theorem dX0_become_5 : decode cX0_become 5 = .ok (.putfield 34, 3) := by decide +kernel
theorem dX0_become_8 : decode cX0_become 8 = .ok (.aload_n 0, 1) := by decide +kernel
theorem dX0_become_9 : decode cX0_become 9 = .ok (.aload_n 1, 1) := by decide +kernel
theorem dX0_become_10 : decode cX0_become 10 = .ok (.getfield 37, 3) := by decide +kernel
theorem dX0_become_13 : decode cX0_become 13 = .ok (.putfield 37, 3) := by decide +kernel
theorem dX0_become_16 : decode cX0_become 16 = .ok (.aload_n 0, 1) := by decide +kernel
theorem dX0_become_17 : decode cX0_become 17 = .ok (.aload_n 1, 1) := by decide +kernel
theorem dX0_become_18 : decode cX0_become 18 = .ok (.getfield 29, 3) := by decide +kernel
theorem dX0_become_21 : decode cX0_become 21 = .ok (.putfield 29, 3) := by decide +kernel
theorem dX0_become_24 : decode cX0_become 24 = .ok (.aload_n 1, 1) := by decide +kernel
theorem dX0_become_25 : decode cX0_become 25 = .ok (.getfield 18, 3) := by decide +kernel
theorem dX0_become_28 : decode cX0_become 28 = .ok (.iconst 0, 1) := by decide +kernel
theorem dX0_become_29 : decode cX0_become 29 = .ok (.aload_n 0, 1) := by decide +kernel
theorem dX0_become_30 : decode cX0_become 30 = .ok (.getfield 18, 3) := by decide +kernel
theorem dX0_become_33 : decode cX0_become 33 = .ok (.iconst 0, 1) := by decide +kernel
theorem dX0_become_34 : decode cX0_become 34 = .ok (.bipush 6, 2) := by decide +kernel
theorem dX0_become_36 : decode cX0_become 36 = .ok (.invokestatic 40, 3) := by decide +kernel
theorem dX0_become_39 : decode cX0_become 39 = .ok (.iconst 0, 1) := by decide +kernel
theorem dX0_become_40 : decode cX0_become 40 = .ok (.istore_n 2, 1) := by decide +kernel
theorem dX0_become_41 : decode cX0_become 41 = .ok (.iload_n 2, 1) := by decide +kernel
theorem dX0_become_42 : decode cX0_become 42 = .ok (.bipush 6, 2) := by decide +kernel
theorem dX0_become_44 : decode cX0_become 44 = .ok (.if_icmp .ge 28, 3) := by decide +kernel
theorem dX0_become_47 : decode cX0_become 47 = .ok (.aload_n 1, 1) := by decide +kernel
theorem dX0_become_48 : decode cX0_become 48 = .ok (.iload_n 2, 1) := by decide +kernel
theorem dX0_become_49 : decode cX0_become 49 = .ok (.invokevirtual 46, 3) := by decide +kernel
theorem dX0_become_52 : decode cX0_become 52 = .ok (.astore_n 3, 1) := by decide +kernel
theorem dX0_become_53 : decode cX0_become 53 = .ok (.aload_n 3, 1) := by decide +kernel
theorem dX0_become_54 : decode cX0_become 54 = .ok (.ifnull 12, 3) := by decide +kernel
theorem dX0_become_57 : decode cX0_become 57 = .ok (.aload_n 0, 1) := by decide +kernel
theorem dX0_become_58 : decode cX0_become 58 = .ok (.iload_n 2, 1) := by decide +kernel
theorem dX0_become_59 : decode cX0_become 59 = .ok (.invokevirtual 50, 3) := by decide +kernel
theorem dX0_become_62 : decode cX0_become 62 = .ok (.aload_n 3, 1) := by decide +kernel
theorem dX0_become_63 : decode cX0_become 63 = .ok (.invokevirtual 53, 3) := by decide +kernel
theorem dX0_become_66 : decode cX0_become 66 = .ok (.iinc 2 1, 3) := by decide +kernel
theorem dX0_become_69 : decode cX0_become 69 = .ok (.goto (-28), 3) := by decide +kernel
theorem dX0_become_72 : decode cX0_become 72 = .ok (.return_, 1) := by decide +kernel
theorem dX0_settingOrNone_0 : decode cX0_settingOrNone 0 = .ok (.iload_n 1, 1) := by decide +kernel
theorem dX0_settingOrNone_1 : decode cX0_settingOrNone 1 = .ok (.invokestatic 57, 3) := by decide +kernel
theorem dX0_settingOrNone_4 : decode cX0_settingOrNone 4 = .ok (.ifCond .eq 12, 3) := by decide +kernel
theorem dX0_settingOrNone_7 : decode cX0_settingOrNone 7 = .ok (.aload_n 0, 1) := by decide +kernel
theorem dX0_settingOrNone_8 : decode cX0_settingOrNone 8 = .ok (.getfield 18, 3) := by decide +kernel
theorem dX0_settingOrNone_11 : decode cX0_settingOrNone 11 = .ok (.iload_n 1, 1) := by decide +kernel
theorem dX0_settingOrNone_12 : decode cX0_settingOrNone 12 = .ok (.iaload, 1) := by decide +kernel
theorem dX0_settingOrNone_13 : decode cX0_settingOrNone 13 = .ok (.goto 4, 3) := by decide +kernel
theorem dX0_settingOrNone_16 : decode cX0_settingOrNone 16 = .ok (.iconst (-1), 1) := by decide +kernel
theorem dX0_settingOrNone_17 : decode cX0_settingOrNone 17 = .ok (.ireturn, 1) := by decide +kernel
theorem dX0_enter_0 : decode cX0_enter 0 = .ok (.iload_n 1, 1) := by decide +kernel
theorem dX0_enter_1 : decode cX0_enter 1 = .ok (.invokestatic 61, 3) := by decide +kernel
theorem dX0_enter_4 : decode cX0_enter 4 = .ok (.ifCond .ne 5, 3) := by decide +kernel
theorem dX0_enter_7 : decode cX0_enter 7 = .ok (.iconst (-1), 1) := by decide +kernel
theorem dX0_enter_8 : decode cX0_enter 8 = .ok (.ireturn, 1) := by decide +kernel
theorem dX0_enter_9 : decode cX0_enter 9 = .ok (.aload_n 0, 1) := by decide +kernel
theorem dX0_enter_10 : decode cX0_enter 10 = .ok (.getfield 29, 3) := by decide +kernel
theorem dX0_enter_13 : decode cX0_enter 13 = .ok (.ifCond .lt 12, 3) := by decide +kernel
theorem dX0_enter_16 : decode cX0_enter 16 = .ok (.aload_n 0, 1) := by decide +kernel
theorem dX0_enter_17 : decode cX0_enter 17 = .ok (.getfield 29, 3) := by decide +kernel
theorem dX0_enter_20 : decode cX0_enter 20 = .ok (.bipush 6, 2) := by decide +kernel
theorem dX0_enter_22 : decode cX0_enter 22 = .ok (.if_icmp .lt 6, 3) := by decide +kernel
theorem dX0_enter_25 : decode cX0_enter 25 = .ok (.bipush (-2), 2) := by decide +kernel
theorem dX0_enter_27 : decode cX0_enter 27 = .ok (.ireturn, 1) := by decide +kernel
theorem dX0_enter_28 : decode cX0_enter 28 = .ok (.aload_n 0, 1) := by decide +kernel
theorem dX0_enter_29 : decode cX0_enter 29 = .ok (.aload_n 0, 1) := by decide +kernel
theorem dX0_enter_30 : decode cX0_enter 30 = .ok (.getfield 29, 3) := by decide +kernel
theorem dX0_enter_33 : decode cX0_enter 33 = .ok (.invokevirtual 50, 3) := by decide +kernel
theorem dX0_enter_36 : decode cX0_enter 36 = .ok (.iload_n 1, 1) := by decide +kernel
theorem dX0_enter_37 : decode cX0_enter 37 = .ok (.aload_n 0, 1) := by decide +kernel
theorem dX0_enter_38 : decode cX0_enter 38 = .ok (.getfield 34, 3) := by decide +kernel
theorem dX0_enter_41 : decode cX0_enter 41 = .ok (.invokevirtual 64, 3) := by decide +kernel
theorem dX0_enter_44 : decode cX0_enter 44 = .ok (.aload_n 0, 1) := by decide +kernel
theorem dX0_enter_45 : decode cX0_enter 45 = .ok (.dup, 1) := by decide +kernel
theorem dX0_enter_46 : decode cX0_enter 46 = .ok (.getfield 29, 3) := by decide +kernel
theorem dX0_enter_49 : decode cX0_enter 49 = .ok (.iconst 1, 1) := by decide +kernel
theorem dX0_enter_50 : decode cX0_enter 50 = .ok (.iadd, 1) := by decide +kernel
theorem dX0_enter_51 : decode cX0_enter 51 = .ok (.putfield 29, 3) := by decide +kernel
theorem dX0_enter_54 : decode cX0_enter 54 = .ok (.aload_n 0, 1) := by decide +kernel
theorem dX0_enter_55 : decode cX0_enter 55 = .ok (.getfield 29, 3) := by decide +kernel
theorem dX0_enter_58 : decode cX0_enter 58 = .ok (.iconst 1, 1) := by decide +kernel
theorem dX0_enter_59 : decode cX0_enter 59 = .ok (.isub, 1) := by decide +kernel
theorem dX0_enter_60 : decode cX0_enter 60 = .ok (.ireturn, 1) := by decide +kernel
theorem dX0_change_0 : decode cX0_change 0 = .ok (.iload_n 1, 1) := by decide +kernel
theorem dX0_change_1 : decode cX0_change 1 = .ok (.iload_n 2, 1) := by decide +kernel
theorem dX0_change_2 : decode cX0_change 2 = .ok (.invokestatic 68, 3) := by decide +kernel
theorem dX0_change_5 : decode cX0_change 5 = .ok (.ifCond .eq 13, 3) := by decide +kernel
theorem dX0_change_8 : decode cX0_change 8 = .ok (.aload_n 0, 1) := by decide +kernel
theorem dX0_change_9 : decode cX0_change 9 = .ok (.getfield 18, 3) := by decide +kernel
theorem dX0_change_12 : decode cX0_change 12 = .ok (.iload_n 1, 1) := by decide +kernel
theorem dX0_change_13 : decode cX0_change 13 = .ok (.iaload, 1) := by decide +kernel
theorem dX0_change_14 : decode cX0_change 14 = .ok (.iload_n 2, 1) := by decide +kernel
theorem dX0_change_15 : decode cX0_change 15 = .ok (.if_icmp .ne 5, 3) := by decide +kernel
theorem dX0_change_18 : decode cX0_change 18 = .ok (.iconst 0, 1) := by decide +kernel
theorem dX0_change_19 : decode cX0_change 19 = .ok (.ireturn, 1) := by decide +kernel
theorem dX0_change_20 : decode cX0_change 20 = .ok (.aload_n 0, 1) := by decide +kernel
theorem dX0_change_21 : decode cX0_change 21 = .ok (.getfield 18, 3) := by decide +kernel
theorem dX0_change_24 : decode cX0_change 24 = .ok (.iload_n 1, 1) := by decide +kernel
theorem dX0_change_25 : decode cX0_change 25 = .ok (.iload_n 2, 1) := by decide +kernel
theorem dX0_change_26 : decode cX0_change 26 = .ok (.iastore, 1) := by decide +kernel
theorem dX0_change_27 : decode cX0_change 27 = .ok (.iconst 1, 1) := by decide +kernel
theorem dX0_change_28 : decode cX0_change 28 = .ok (.ireturn, 1) := by decide +kernel
theorem dX0_goOn_0 : decode cX0_goOn 0 = .ok (.iload_n 1, 1) := by decide +kernel
theorem dX0_goOn_1 : decode cX0_goOn 1 = .ok (.invokestatic 72, 3) := by decide +kernel
theorem dX0_goOn_4 : decode cX0_goOn 4 = .ok (.ifCond .eq 10, 3) := by decide +kernel
theorem dX0_goOn_7 : decode cX0_goOn 7 = .ok (.iload_n 2, 1) := by decide +kernel
theorem dX0_goOn_8 : decode cX0_goOn 8 = .ok (.invokestatic 75, 3) := by decide +kernel
theorem dX0_goOn_11 : decode cX0_goOn 11 = .ok (.ifCond .ne 5, 3) := by decide +kernel
theorem dX0_goOn_14 : decode cX0_goOn 14 = .ok (.iconst (-1), 1) := by decide +kernel
theorem dX0_goOn_15 : decode cX0_goOn 15 = .ok (.ireturn, 1) := by decide +kernel
theorem dX0_goOn_16 : decode cX0_goOn 16 = .ok (.aload_n 0, 1) := by decide +kernel
theorem dX0_goOn_17 : decode cX0_goOn 17 = .ok (.iload_n 1, 1) := by decide +kernel
theorem dX0_goOn_18 : decode cX0_goOn 18 = .ok (.iload_n 2, 1) := by decide +kernel
theorem dX0_goOn_19 : decode cX0_goOn 19 = .ok (.invokevirtual 78, 3) := by decide +kernel
theorem dX0_goOn_22 : decode cX0_goOn 22 = .ok (.ifCond .gt 5, 3) := by decide +kernel
theorem dX0_goOn_25 : decode cX0_goOn 25 = .ok (.iconst (-1), 1) := by decide +kernel
theorem dX0_goOn_26 : decode cX0_goOn 26 = .ok (.ireturn, 1) := by decide +kernel
theorem dX0_goOn_27 : decode cX0_goOn 27 = .ok (.iconst 0, 1) := by decide +kernel
theorem dX0_goOn_28 : decode cX0_goOn 28 = .ok (.istore_n 3, 1) := by decide +kernel
theorem dX0_goOn_29 : decode cX0_goOn 29 = .ok (.iload_n 1, 1) := by decide +kernel
theorem dX0_goOn_30 : decode cX0_goOn 30 = .ok (.bipush 30, 2) := by decide +kernel
theorem dX0_goOn_32 : decode cX0_goOn 32 = .ok (.idiv, 1) := by decide +kernel
theorem dX0_goOn_33 : decode cX0_goOn 33 = .ok (.istore 4, 2) := by decide +kernel
theorem dX0_goOn_35 : decode cX0_goOn 35 = .ok (.aload_n 0, 1) := by decide +kernel
theorem dX0_goOn_36 : decode cX0_goOn 36 = .ok (.getfield 34, 3) := by decide +kernel
theorem dX0_goOn_39 : decode cX0_goOn 39 = .ok (.bipush 30, 2) := by decide +kernel
theorem dX0_goOn_41 : decode cX0_goOn 41 = .ok (.idiv, 1) := by decide +kernel
theorem dX0_goOn_42 : decode cX0_goOn 42 = .ok (.iconst 1, 1) := by decide +kernel
theorem dX0_goOn_43 : decode cX0_goOn 43 = .ok (.iadd, 1) := by decide +kernel
theorem dX0_goOn_44 : decode cX0_goOn 44 = .ok (.istore 5, 2) := by decide +kernel
theorem dX0_goOn_46 : decode cX0_goOn 46 = .ok (.iload 5, 2) := by decide +kernel
theorem dX0_goOn_48 : decode cX0_goOn 48 = .ok (.iload 4, 2) := by decide +kernel
theorem dX0_goOn_50 : decode cX0_goOn 50 = .ok (.if_icmp .gt 18, 3) := by decide +kernel
theorem dX0_goOn_53 : decode cX0_goOn 53 = .ok (.iload_n 3, 1) := by decide +kernel
theorem dX0_goOn_54 : decode cX0_goOn 54 = .ok (.aload_n 0, 1) := by decide +kernel
theorem dX0_goOn_55 : decode cX0_goOn 55 = .ok (.iload 5, 2) := by decide +kernel
theorem dX0_goOn_57 : decode cX0_goOn 57 = .ok (.invokevirtual 82, 3) := by decide +kernel
theorem dX0_goOn_60 : decode cX0_goOn 60 = .ok (.iadd, 1) := by decide +kernel
theorem dX0_goOn_61 : decode cX0_goOn 61 = .ok (.istore_n 3, 1) := by decide +kernel
theorem dX0_goOn_62 : decode cX0_goOn 62 = .ok (.iinc 5 1, 3) := by decide +kernel
theorem dX0_goOn_65 : decode cX0_goOn 65 = .ok (.goto (-19), 3) := by decide +kernel
theorem dX0_goOn_68 : decode cX0_goOn 68 = .ok (.aload_n 0, 1) := by decide +kernel
theorem dX0_goOn_69 : decode cX0_goOn 69 = .ok (.iload_n 1, 1) := by decide +kernel
theorem dX0_goOn_70 : decode cX0_goOn 70 = .ok (.putfield 34, 3) := by decide +kernel
theorem dX0_goOn_73 : decode cX0_goOn 73 = .ok (.aload_n 0, 1) := by decide +kernel
theorem dX0_goOn_74 : decode cX0_goOn 74 = .ok (.iload_n 2, 1) := by decide +kernel
theorem dX0_goOn_75 : decode cX0_goOn 75 = .ok (.putfield 37, 3) := by decide +kernel
theorem dX0_goOn_78 : decode cX0_goOn 78 = .ok (.iload_n 3, 1) := by decide +kernel
theorem dX0_goOn_79 : decode cX0_goOn 79 = .ok (.ireturn, 1) := by decide +kernel
theorem dX0_hoursTo_0 : decode cX0_hoursTo 0 = .ok (.iload_n 1, 1) := by decide +kernel
theorem dX0_hoursTo_1 : decode cX0_hoursTo 1 = .ok (.aload_n 0, 1) := by decide +kernel
theorem dX0_hoursTo_2 : decode cX0_hoursTo 2 = .ok (.getfield 34, 3) := by decide +kernel
theorem dX0_hoursTo_5 : decode cX0_hoursTo 5 = .ok (.isub, 1) := by decide +kernel
theorem dX0_hoursTo_6 : decode cX0_hoursTo 6 = .ok (.bipush 24, 2) := by decide +kernel
theorem dX0_hoursTo_8 : decode cX0_hoursTo 8 = .ok (.imul, 1) := by decide +kernel
theorem dX0_hoursTo_9 : decode cX0_hoursTo 9 = .ok (.iload_n 2, 1) := by decide +kernel
theorem dX0_hoursTo_10 : decode cX0_hoursTo 10 = .ok (.iadd, 1) := by decide +kernel
theorem dX0_hoursTo_11 : decode cX0_hoursTo 11 = .ok (.aload_n 0, 1) := by decide +kernel
theorem dX0_hoursTo_12 : decode cX0_hoursTo 12 = .ok (.getfield 37, 3) := by decide +kernel
theorem dX0_hoursTo_15 : decode cX0_hoursTo 15 = .ok (.isub, 1) := by decide +kernel
theorem dX0_hoursTo_16 : decode cX0_hoursTo 16 = .ok (.ireturn, 1) := by decide +kernel
theorem dX0_beginQuarter_0 : decode cX0_beginQuarter 0 = .ok (.iconst 0, 1) := by decide +kernel
theorem dX0_beginQuarter_1 : decode cX0_beginQuarter 1 = .ok (.istore_n 2, 1) := by decide +kernel
theorem dX0_beginQuarter_2 : decode cX0_beginQuarter 2 = .ok (.iconst 0, 1) := by decide +kernel
theorem dX0_beginQuarter_3 : decode cX0_beginQuarter 3 = .ok (.istore_n 3, 1) := by decide +kernel
theorem dX0_beginQuarter_4 : decode cX0_beginQuarter 4 = .ok (.iload_n 3, 1) := by decide +kernel
theorem dX0_beginQuarter_5 : decode cX0_beginQuarter 5 = .ok (.aload_n 0, 1) := by decide +kernel
theorem dX0_beginQuarter_6 : decode cX0_beginQuarter 6 = .ok (.getfield 29, 3) := by decide +kernel
theorem dX0_beginQuarter_9 : decode cX0_beginQuarter 9 = .ok (.if_icmp .ge 50, 3) := by decide +kernel
theorem dX0_beginQuarter_12 : decode cX0_beginQuarter 12 = .ok (.aload_n 0, 1) := by decide +kernel
theorem dX0_beginQuarter_13 : decode cX0_beginQuarter 13 = .ok (.iload_n 3, 1) := by decide +kernel
theorem dX0_beginQuarter_14 : decode cX0_beginQuarter 14 = .ok (.invokevirtual 46, 3) := by decide +kernel
theorem dX0_beginQuarter_17 : decode cX0_beginQuarter 17 = .ok (.astore 4, 2) := by decide +kernel
theorem dX0_beginQuarter_19 : decode cX0_beginQuarter 19 = .ok (.aload 4, 2) := by decide +kernel
theorem dX0_beginQuarter_21 : decode cX0_beginQuarter 21 = .ok (.ifnull 32, 3) := by decide +kernel
theorem dX0_beginQuarter_24 : decode cX0_beginQuarter 24 = .ok (.aload 4, 2) := by decide +kernel
theorem dX0_beginQuarter_26 : decode cX0_beginQuarter 26 = .ok (.iconst 0, 1) := by decide +kernel
theorem dX0_beginQuarter_27 : decode cX0_beginQuarter 27 = .ok (.putfield 86, 3) := by decide +kernel
theorem dX0_beginQuarter_30 : decode cX0_beginQuarter 30 = .ok (.aload 4, 2) := by decide +kernel
theorem dX0_beginQuarter_32 : decode cX0_beginQuarter 32 = .ok (.iload_n 1, 1) := by decide +kernel
theorem dX0_beginQuarter_33 : decode cX0_beginQuarter 33 = .ok (.invokevirtual 89, 3) := by decide +kernel
theorem dX0_beginQuarter_36 : decode cX0_beginQuarter 36 = .ok (.iconst (-1), 1) := by decide +kernel
theorem dX0_beginQuarter_37 : decode cX0_beginQuarter 37 = .ok (.if_icmp .eq 16, 3) := by decide +kernel
theorem dX0_beginQuarter_40 : decode cX0_beginQuarter 40 = .ok (.iload_n 2, 1) := by decide +kernel
theorem dX0_beginQuarter_41 : decode cX0_beginQuarter 41 = .ok (.aload 4, 2) := by decide +kernel
theorem dX0_beginQuarter_43 : decode cX0_beginQuarter 43 = .ok (.iload_n 1, 1) := by decide +kernel
theorem dX0_beginQuarter_44 : decode cX0_beginQuarter 44 = .ok (.bipush 30, 2) := by decide +kernel
theorem dX0_beginQuarter_46 : decode cX0_beginQuarter 46 = .ok (.imul, 1) := by decide +kernel
theorem dX0_beginQuarter_47 : decode cX0_beginQuarter 47 = .ok (.iconst 0, 1) := by decide +kernel
theorem dX0_beginQuarter_48 : decode cX0_beginQuarter 48 = .ok (.invokevirtual 92, 3) := by decide +kernel
theorem dX0_beginQuarter_51 : decode cX0_beginQuarter 51 = .ok (.iadd, 1) := by decide +kernel
theorem dX0_beginQuarter_52 : decode cX0_beginQuarter 52 = .ok (.istore_n 2, 1) := by decide +kernel
theorem dX0_beginQuarter_53 : decode cX0_beginQuarter 53 = .ok (.iinc 3 1, 3) := by decide +kernel
theorem dX0_beginQuarter_56 : decode cX0_beginQuarter 56 = .ok (.goto (-52), 3) := by decide +kernel
theorem dX0_beginQuarter_59 : decode cX0_beginQuarter 59 = .ok (.iload_n 2, 1) := by decide +kernel
theorem dX0_beginQuarter_60 : decode cX0_beginQuarter 60 = .ok (.ireturn, 1) := by decide +kernel
theorem dX0_enterSpan_0 : decode cX0_enterSpan 0 = .ok (.aload_n 0, 1) := by decide +kernel
theorem dX0_enterSpan_1 : decode cX0_enterSpan 1 = .ok (.iload_n 1, 1) := by decide +kernel
theorem dX0_enterSpan_2 : decode cX0_enterSpan 2 = .ok (.invokevirtual 46, 3) := by decide +kernel
theorem dX0_enterSpan_5 : decode cX0_enterSpan 5 = .ok (.astore 6, 2) := by decide +kernel
theorem dX0_enterSpan_7 : decode cX0_enterSpan 7 = .ok (.aload 6, 2) := by decide +kernel
theorem dX0_enterSpan_9 : decode cX0_enterSpan 9 = .ok (.ifnull 11, 3) := by decide +kernel
theorem dX0_enterSpan_12 : decode cX0_enterSpan 12 = .ok (.iload_n 2, 1) := by decide +kernel
theorem dX0_enterSpan_13 : decode cX0_enterSpan 13 = .ok (.iload_n 3, 1) := by decide +kernel
theorem dX0_enterSpan_14 : decode cX0_enterSpan 14 = .ok (.invokestatic 95, 3) := by decide +kernel
theorem dX0_enterSpan_17 : decode cX0_enterSpan 17 = .ok (.ifCond .ne 5, 3) := by decide +kernel
theorem dX0_enterSpan_20 : decode cX0_enterSpan 20 = .ok (.iconst (-1), 1) := by decide +kernel
theorem dX0_enterSpan_21 : decode cX0_enterSpan 21 = .ok (.ireturn, 1) := by decide +kernel
theorem dX0_enterSpan_22 : decode cX0_enterSpan 22 = .ok (.iload 4, 2) := by decide +kernel
theorem dX0_enterSpan_24 : decode cX0_enterSpan 24 = .ok (.invokestatic 98, 3) := by decide +kernel
theorem dX0_enterSpan_27 : decode cX0_enterSpan 27 = .ok (.ifCond .eq 23, 3) := by decide +kernel
theorem dX0_enterSpan_30 : decode cX0_enterSpan 30 = .ok (.iload 5, 2) := by decide +kernel
theorem dX0_enterSpan_32 : decode cX0_enterSpan 32 = .ok (.invokestatic 101, 3) := by decide +kernel
theorem dX0_enterSpan_35 : decode cX0_enterSpan 35 = .ok (.ifCond .eq 15, 3) := by decide +kernel
theorem dX0_enterSpan_38 : decode cX0_enterSpan 38 = .ok (.aload_n 0, 1) := by decide +kernel
theorem dX0_enterSpan_39 : decode cX0_enterSpan 39 = .ok (.aload 6, 2) := by decide +kernel
theorem dX0_enterSpan_41 : decode cX0_enterSpan 41 = .ok (.iload_n 2, 1) := by decide +kernel
theorem dX0_enterSpan_42 : decode cX0_enterSpan 42 = .ok (.iload 4, 2) := by decide +kernel
theorem dX0_enterSpan_44 : decode cX0_enterSpan 44 = .ok (.invokevirtual 104, 3) := by decide +kernel
theorem dX0_enterSpan_47 : decode cX0_enterSpan 47 = .ok (.ifCond .ne 5, 3) := by decide +kernel
theorem dX0_enterSpan_50 : decode cX0_enterSpan 50 = .ok (.iconst (-1), 1) := by decide +kernel
theorem dX0_enterSpan_51 : decode cX0_enterSpan 51 = .ok (.ireturn, 1) := by decide +kernel
theorem dX0_enterSpan_52 : decode cX0_enterSpan 52 = .ok (.iload 4, 2) := by decide +kernel
theorem dX0_enterSpan_54 : decode cX0_enterSpan 54 = .ok (.iload 5, 2) := by decide +kernel
theorem dX0_enterSpan_56 : decode cX0_enterSpan 56 = .ok (.invokestatic 108, 3) := by decide +kernel
theorem dX0_enterSpan_59 : decode cX0_enterSpan 59 = .ok (.istore 7, 2) := by decide +kernel
theorem dX0_enterSpan_61 : decode cX0_enterSpan 61 = .ok (.iconst 0, 1) := by decide +kernel
theorem dX0_enterSpan_62 : decode cX0_enterSpan 62 = .ok (.istore 8, 2) := by decide +kernel
theorem dX0_enterSpan_64 : decode cX0_enterSpan 64 = .ok (.iload_n 2, 1) := by decide +kernel
theorem dX0_enterSpan_65 : decode cX0_enterSpan 65 = .ok (.istore 9, 2) := by decide +kernel
theorem dX0_enterSpan_67 : decode cX0_enterSpan 67 = .ok (.iload 9, 2) := by decide +kernel
theorem dX0_enterSpan_69 : decode cX0_enterSpan 69 = .ok (.iload_n 3, 1) := by decide +kernel
theorem dX0_enterSpan_70 : decode cX0_enterSpan 70 = .ok (.if_icmp .gt 79, 3) := by decide +kernel
theorem dX0_enterSpan_73 : decode cX0_enterSpan 73 = .ok (.aload 6, 2) := by decide +kernel
theorem dX0_enterSpan_75 : decode cX0_enterSpan 75 = .ok (.getfield 111, 3) := by decide +kernel
theorem dX0_enterSpan_78 : decode cX0_enterSpan 78 = .ok (.iload 9, 2) := by decide +kernel
theorem dX0_enterSpan_80 : decode cX0_enterSpan 80 = .ok (.iaload, 1) := by decide +kernel
theorem dX0_enterSpan_81 : decode cX0_enterSpan 81 = .ok (.istore 10, 2) := by decide +kernel
theorem dX0_enterSpan_83 : decode cX0_enterSpan 83 = .ok (.aload 6, 2) := by decide +kernel
theorem dX0_enterSpan_85 : decode cX0_enterSpan 85 = .ok (.getfield 111, 3) := by decide +kernel
theorem dX0_enterSpan_88 : decode cX0_enterSpan 88 = .ok (.iload 9, 2) := by decide +kernel
theorem dX0_enterSpan_90 : decode cX0_enterSpan 90 = .ok (.iload 7, 2) := by decide +kernel
theorem dX0_enterSpan_92 : decode cX0_enterSpan 92 = .ok (.iastore, 1) := by decide +kernel
theorem dX0_enterSpan_93 : decode cX0_enterSpan 93 = .ok (.iload 10, 2) := by decide +kernel
theorem dX0_enterSpan_95 : decode cX0_enterSpan 95 = .ok (.ifCond .eq 48, 3) := by decide +kernel
theorem dX0_enterSpan_98 : decode cX0_enterSpan 98 = .ok (.iload 10, 2) := by decide +kernel
theorem dX0_enterSpan_100 : decode cX0_enterSpan 100 = .ok (.iload 7, 2) := by decide +kernel
theorem dX0_enterSpan_102 : decode cX0_enterSpan 102 = .ok (.if_icmp .eq 41, 3) := by decide +kernel
theorem dX0_enterSpan_105 : decode cX0_enterSpan 105 = .ok (.iinc 8 1, 3) := by decide +kernel
theorem dX0_enterSpan_108 : decode cX0_enterSpan 108 = .ok (.iload 10, 2) := by decide +kernel
theorem dX0_enterSpan_110 : decode cX0_enterSpan 110 = .ok (.invokestatic 114, 3) := by decide +kernel
theorem dX0_enterSpan_113 : decode cX0_enterSpan 113 = .ok (.iload 4, 2) := by decide +kernel
theorem dX0_enterSpan_115 : decode cX0_enterSpan 115 = .ok (.invokestatic 117, 3) := by decide +kernel
theorem dX0_enterSpan_118 : decode cX0_enterSpan 118 = .ok (.istore 11, 2) := by decide +kernel
theorem dX0_enterSpan_120 : decode cX0_enterSpan 120 = .ok (.aload_n 0, 1) := by decide +kernel
theorem dX0_enterSpan_121 : decode cX0_enterSpan 121 = .ok (.iload 9, 2) := by decide +kernel
theorem dX0_enterSpan_123 : decode cX0_enterSpan 123 = .ok (.iload 11, 2) := by decide +kernel
theorem dX0_enterSpan_125 : decode cX0_enterSpan 125 = .ok (.invokevirtual 78, 3) := by decide +kernel
theorem dX0_enterSpan_128 : decode cX0_enterSpan 128 = .ok (.aload_n 0, 1) := by decide +kernel
theorem dX0_enterSpan_129 : decode cX0_enterSpan 129 = .ok (.getfield 18, 3) := by decide +kernel
theorem dX0_enterSpan_132 : decode cX0_enterSpan 132 = .ok (.iconst 3, 1) := by decide +kernel
theorem dX0_enterSpan_133 : decode cX0_enterSpan 133 = .ok (.iaload, 1) := by decide +kernel
theorem dX0_enterSpan_134 : decode cX0_enterSpan 134 = .ok (.if_icmp .ge 9, 3) := by decide +kernel
theorem dX0_enterSpan_137 : decode cX0_enterSpan 137 = .ok (.aload_n 0, 1) := by decide +kernel
theorem dX0_enterSpan_138 : decode cX0_enterSpan 138 = .ok (.aload 6, 2) := by decide +kernel
theorem dX0_enterSpan_140 : decode cX0_enterSpan 140 = .ok (.invokevirtual 122, 3) := by decide +kernel
theorem dX0_enterSpan_143 : decode cX0_enterSpan 143 = .ok (.iinc 9 1, 3) := by decide +kernel
theorem dX0_enterSpan_146 : decode cX0_enterSpan 146 = .ok (.goto (-79), 3) := by decide +kernel
theorem dX0_enterSpan_149 : decode cX0_enterSpan 149 = .ok (.iload 8, 2) := by decide +kernel
theorem dX0_enterSpan_151 : decode cX0_enterSpan 151 = .ok (.ireturn, 1) := by decide +kernel
theorem dX0_mayStart_0 : decode cX0_mayStart 0 = .ok (.iload_n 2, 1) := by decide +kernel
theorem dX0_mayStart_1 : decode cX0_mayStart 1 = .ok (.aload_n 0, 1) := by decide +kernel
theorem dX0_mayStart_2 : decode cX0_mayStart 2 = .ok (.getfield 34, 3) := by decide +kernel
theorem dX0_mayStart_5 : decode cX0_mayStart 5 = .ok (.if_icmp .eq 17, 3) := by decide +kernel
theorem dX0_mayStart_8 : decode cX0_mayStart 8 = .ok (.iload_n 2, 1) := by decide +kernel
theorem dX0_mayStart_9 : decode cX0_mayStart 9 = .ok (.aload_n 0, 1) := by decide +kernel
theorem dX0_mayStart_10 : decode cX0_mayStart 10 = .ok (.getfield 34, 3) := by decide +kernel
theorem dX0_mayStart_13 : decode cX0_mayStart 13 = .ok (.if_icmp .le 7, 3) := by decide +kernel
theorem dX0_mayStart_16 : decode cX0_mayStart 16 = .ok (.iconst 1, 1) := by decide +kernel
theorem dX0_mayStart_17 : decode cX0_mayStart 17 = .ok (.goto 4, 3) := by decide +kernel
theorem dX0_mayStart_20 : decode cX0_mayStart 20 = .ok (.iconst 0, 1) := by decide +kernel
theorem dX0_mayStart_21 : decode cX0_mayStart 21 = .ok (.ireturn, 1) := by decide +kernel
theorem dX0_mayStart_22 : decode cX0_mayStart 22 = .ok (.aload_n 1, 1) := by decide +kernel
theorem dX0_mayStart_23 : decode cX0_mayStart 23 = .ok (.getfield 111, 3) := by decide +kernel
theorem dX0_mayStart_26 : decode cX0_mayStart 26 = .ok (.iload_n 2, 1) := by decide +kernel
theorem dX0_mayStart_27 : decode cX0_mayStart 27 = .ok (.iaload, 1) := by decide +kernel
theorem dX0_mayStart_28 : decode cX0_mayStart 28 = .ok (.istore 4, 2) := by decide +kernel
theorem dX0_mayStart_30 : decode cX0_mayStart 30 = .ok (.iload_n 3, 1) := by decide +kernel
theorem dX0_mayStart_31 : decode cX0_mayStart 31 = .ok (.aload_n 0, 1) := by decide +kernel
theorem dX0_mayStart_32 : decode cX0_mayStart 32 = .ok (.getfield 37, 3) := by decide +kernel
theorem dX0_mayStart_35 : decode cX0_mayStart 35 = .ok (.if_icmp .le 24, 3) := by decide +kernel
theorem dX0_mayStart_38 : decode cX0_mayStart 38 = .ok (.iload 4, 2) := by decide +kernel
theorem dX0_mayStart_40 : decode cX0_mayStart 40 = .ok (.ifCond .eq 15, 3) := by decide +kernel
theorem dX0_mayStart_43 : decode cX0_mayStart 43 = .ok (.iload 4, 2) := by decide +kernel
theorem dX0_mayStart_45 : decode cX0_mayStart 45 = .ok (.invokestatic 114, 3) := by decide +kernel
theorem dX0_mayStart_48 : decode cX0_mayStart 48 = .ok (.aload_n 0, 1) := by decide +kernel
theorem dX0_mayStart_49 : decode cX0_mayStart 49 = .ok (.getfield 37, 3) := by decide +kernel
theorem dX0_mayStart_52 : decode cX0_mayStart 52 = .ok (.if_icmp .le 7, 3) := by decide +kernel
theorem dX0_mayStart_55 : decode cX0_mayStart 55 = .ok (.iconst 1, 1) := by decide +kernel
theorem dX0_mayStart_56 : decode cX0_mayStart 56 = .ok (.goto 4, 3) := by decide +kernel
theorem dX0_mayStart_59 : decode cX0_mayStart 59 = .ok (.iconst 0, 1) := by decide +kernel
theorem dX0_mayStart_60 : decode cX0_mayStart 60 = .ok (.ireturn, 1) := by decide +kernel
theorem dX0_noteLateChange_0 : decode cX0_noteLateChange 0 = .ok (.aload_n 1, 1) := by decide +kernel
theorem dX0_noteLateChange_1 : decode cX0_noteLateChange 1 = .ok (.dup, 1) := by decide +kernel
theorem dX0_noteLateChange_2 : decode cX0_noteLateChange 2 = .ok (.getfield 86, 3) := by decide +kernel
theorem dX0_noteLateChange_5 : decode cX0_noteLateChange 5 = .ok (.iconst 1, 1) := by decide +kernel
theorem dX0_noteLateChange_6 : decode cX0_noteLateChange 6 = .ok (.iadd, 1) := by decide +kernel
theorem dX0_noteLateChange_7 : decode cX0_noteLateChange 7 = .ok (.putfield 86, 3) := by decide +kernel
theorem dX0_noteLateChange_10 : decode cX0_noteLateChange 10 = .ok (.aload_n 1, 1) := by decide +kernel
theorem dX0_noteLateChange_11 : decode cX0_noteLateChange 11 = .ok (.getfield 86, 3) := by decide +kernel
theorem dX0_noteLateChange_14 : decode cX0_noteLateChange 14 = .ok (.aload_n 0, 1) := by decide +kernel
theorem dX0_noteLateChange_15 : decode cX0_noteLateChange 15 = .ok (.getfield 18, 3) := by decide +kernel
theorem dX0_noteLateChange_18 : decode cX0_noteLateChange 18 = .ok (.iconst 4, 1) := by decide +kernel
theorem dX0_noteLateChange_19 : decode cX0_noteLateChange 19 = .ok (.iaload, 1) := by decide +kernel
theorem dX0_noteLateChange_20 : decode cX0_noteLateChange 20 = .ok (.if_icmp .le 13, 3) := by decide +kernel
theorem dX0_noteLateChange_23 : decode cX0_noteLateChange 23 = .ok (.aload_n 1, 1) := by decide +kernel
theorem dX0_noteLateChange_24 : decode cX0_noteLateChange 24 = .ok (.aload_n 0, 1) := by decide +kernel
theorem dX0_noteLateChange_25 : decode cX0_noteLateChange 25 = .ok (.getfield 34, 3) := by decide +kernel
theorem dX0_noteLateChange_28 : decode cX0_noteLateChange 28 = .ok (.iconst 1, 1) := by decide +kernel
theorem dX0_noteLateChange_29 : decode cX0_noteLateChange 29 = .ok (.invokevirtual 92, 3) := by decide +kernel
theorem dX0_noteLateChange_32 : decode cX0_noteLateChange 32 = .ok (.pop, 1) := by decide +kernel
theorem dX0_noteLateChange_33 : decode cX0_noteLateChange 33 = .ok (.return_, 1) := by decide +kernel
theorem dX0_visit_0 : decode cX0_visit 0 = .ok (.aload_n 0, 1) := by decide +kernel
theorem dX0_visit_1 : decode cX0_visit 1 = .ok (.iload_n 1, 1) := by decide +kernel
theorem dX0_visit_2 : decode cX0_visit 2 = .ok (.invokevirtual 46, 3) := by decide +kernel
theorem dX0_visit_5 : decode cX0_visit 5 = .ok (.astore 4, 2) := by decide +kernel
theorem dX0_visit_7 : decode cX0_visit 7 = .ok (.aload 4, 2) := by decide +kernel
theorem dX0_visit_9 : decode cX0_visit 9 = .ok (.ifnull 10, 3) := by decide +kernel
theorem dX0_visit_12 : decode cX0_visit 12 = .ok (.iload_n 2, 1) := by decide +kernel
theorem dX0_visit_13 : decode cX0_visit 13 = .ok (.invokestatic 101, 3) := by decide +kernel
theorem dX0_visit_16 : decode cX0_visit 16 = .ok (.ifCond .ne 5, 3) := by decide +kernel
theorem dX0_visit_19 : decode cX0_visit 19 = .ok (.iconst (-1), 1) := by decide +kernel
theorem dX0_visit_20 : decode cX0_visit 20 = .ok (.ireturn, 1) := by decide +kernel
theorem dX0_visit_21 : decode cX0_visit 21 = .ok (.aload 4, 2) := by decide +kernel
theorem dX0_visit_23 : decode cX0_visit 23 = .ok (.dup, 1) := by decide +kernel
theorem dX0_visit_24 : decode cX0_visit 24 = .ok (.getfield 125, 3) := by decide +kernel
theorem dX0_visit_27 : decode cX0_visit 27 = .ok (.iconst 1, 1) := by decide +kernel
theorem dX0_visit_28 : decode cX0_visit 28 = .ok (.iadd, 1) := by decide +kernel
theorem dX0_visit_29 : decode cX0_visit 29 = .ok (.putfield 125, 3) := by decide +kernel
theorem dX0_visit_32 : decode cX0_visit 32 = .ok (.aload 4, 2) := by decide +kernel
theorem dX0_visit_34 : decode cX0_visit 34 = .ok (.aload_n 0, 1) := by decide +kernel
theorem dX0_visit_35 : decode cX0_visit 35 = .ok (.getfield 34, 3) := by decide +kernel
theorem dX0_visit_38 : decode cX0_visit 38 = .ok (.putfield 128, 3) := by decide +kernel
theorem dX0_visit_41 : decode cX0_visit 41 = .ok (.iload_n 3, 1) := by decide +kernel
theorem dX0_visit_42 : decode cX0_visit 42 = .ok (.ifCond .eq 5, 3) := by decide +kernel
theorem dX0_visit_45 : decode cX0_visit 45 = .ok (.iconst 0, 1) := by decide +kernel
theorem dX0_visit_46 : decode cX0_visit 46 = .ok (.ireturn, 1) := by decide +kernel
theorem dX0_visit_47 : decode cX0_visit 47 = .ok (.aload_n 0, 1) := by decide +kernel
theorem dX0_visit_48 : decode cX0_visit 48 = .ok (.getfield 34, 3) := by decide +kernel
theorem dX0_visit_51 : decode cX0_visit 51 = .ok (.invokestatic 131, 3) := by decide +kernel
theorem dX0_visit_54 : decode cX0_visit 54 = .ok (.ifCond .eq 24, 3) := by decide +kernel
theorem dX0_visit_57 : decode cX0_visit 57 = .ok (.aload 4, 2) := by decide +kernel
theorem dX0_visit_59 : decode cX0_visit 59 = .ok (.getfield 111, 3) := by decide +kernel
theorem dX0_visit_62 : decode cX0_visit 62 = .ok (.aload_n 0, 1) := by decide +kernel
theorem dX0_visit_63 : decode cX0_visit 63 = .ok (.getfield 34, 3) := by decide +kernel
theorem dX0_visit_66 : decode cX0_visit 66 = .ok (.iaload, 1) := by decide +kernel
theorem dX0_visit_67 : decode cX0_visit 67 = .ok (.aload_n 0, 1) := by decide +kernel
theorem dX0_visit_68 : decode cX0_visit 68 = .ok (.getfield 37, 3) := by decide +kernel
theorem dX0_visit_71 : decode cX0_visit 71 = .ok (.iload_n 2, 1) := by decide +kernel
theorem dX0_visit_72 : decode cX0_visit 72 = .ok (.invokestatic 108, 3) := by decide +kernel
theorem dX0_visit_75 : decode cX0_visit 75 = .ok (.if_icmp .eq 5, 3) := by decide +kernel
theorem dX0_visit_78 : decode cX0_visit 78 = .ok (.iconst 2, 1) := by decide +kernel
theorem dX0_visit_79 : decode cX0_visit 79 = .ok (.ireturn, 1) := by decide +kernel
theorem dX0_visit_80 : decode cX0_visit 80 = .ok (.aload 4, 2) := by decide +kernel
theorem dX0_visit_82 : decode cX0_visit 82 = .ok (.dup, 1) := by decide +kernel
theorem dX0_visit_83 : decode cX0_visit 83 = .ok (.getfield 134, 3) := by decide +kernel
theorem dX0_visit_86 : decode cX0_visit 86 = .ok (.iconst 1, 1) := by decide +kernel
theorem dX0_visit_87 : decode cX0_visit 87 = .ok (.iadd, 1) := by decide +kernel
theorem dX0_visit_88 : decode cX0_visit 88 = .ok (.putfield 134, 3) := by decide +kernel
theorem dX0_visit_91 : decode cX0_visit 91 = .ok (.aload 4, 2) := by decide +kernel
theorem dX0_visit_93 : decode cX0_visit 93 = .ok (.aload_n 0, 1) := by decide +kernel
theorem dX0_visit_94 : decode cX0_visit 94 = .ok (.getfield 34, 3) := by decide +kernel
theorem dX0_visit_97 : decode cX0_visit 97 = .ok (.iconst 2, 1) := by decide +kernel
theorem dX0_visit_98 : decode cX0_visit 98 = .ok (.invokevirtual 92, 3) := by decide +kernel
theorem dX0_visit_101 : decode cX0_visit 101 = .ok (.pop, 1) := by decide +kernel
theorem dX0_visit_102 : decode cX0_visit 102 = .ok (.iconst 1, 1) := by decide +kernel
theorem dX0_visit_103 : decode cX0_visit 103 = .ok (.ireturn, 1) := by decide +kernel
theorem dX0_strike_0 : decode cX0_strike 0 = .ok (.aload_n 0, 1) := by decide +kernel
theorem dX0_strike_1 : decode cX0_strike 1 = .ok (.iload_n 1, 1) := by decide +kernel
theorem dX0_strike_2 : decode cX0_strike 2 = .ok (.invokevirtual 46, 3) := by decide +kernel
theorem dX0_strike_5 : decode cX0_strike 5 = .ok (.astore_n 3, 1) := by decide +kernel
theorem dX0_strike_6 : decode cX0_strike 6 = .ok (.aload_n 3, 1) := by decide +kernel
theorem dX0_strike_7 : decode cX0_strike 7 = .ok (.ifnull 21, 3) := by decide +kernel
theorem dX0_strike_10 : decode cX0_strike 10 = .ok (.aload_n 3, 1) := by decide +kernel
theorem dX0_strike_11 : decode cX0_strike 11 = .ok (.iload_n 2, 1) := by decide +kernel
theorem dX0_strike_12 : decode cX0_strike 12 = .ok (.invokevirtual 137, 3) := by decide +kernel
theorem dX0_strike_15 : decode cX0_strike 15 = .ok (.ifCond .eq 13, 3) := by decide +kernel
theorem dX0_strike_18 : decode cX0_strike 18 = .ok (.aload_n 3, 1) := by decide +kernel
theorem dX0_strike_19 : decode cX0_strike 19 = .ok (.getfield 140, 3) := by decide +kernel
theorem dX0_strike_22 : decode cX0_strike 22 = .ok (.iload_n 2, 1) := by decide +kernel
theorem dX0_strike_23 : decode cX0_strike 23 = .ok (.iaload, 1) := by decide +kernel
theorem dX0_strike_24 : decode cX0_strike 24 = .ok (.iconst 1, 1) := by decide +kernel
theorem dX0_strike_25 : decode cX0_strike 25 = .ok (.if_icmp .ne 5, 3) := by decide +kernel
theorem dX0_strike_28 : decode cX0_strike 28 = .ok (.iconst 0, 1) := by decide +kernel
theorem dX0_strike_29 : decode cX0_strike 29 = .ok (.ireturn, 1) := by decide +kernel
theorem dX0_strike_30 : decode cX0_strike 30 = .ok (.aload_n 0, 1) := by decide +kernel
theorem dX0_strike_31 : decode cX0_strike 31 = .ok (.getfield 34, 3) := by decide +kernel
theorem dX0_strike_34 : decode cX0_strike 34 = .ok (.aload_n 3, 1) := by decide +kernel
theorem dX0_strike_35 : decode cX0_strike 35 = .ok (.getfield 143, 3) := by decide +kernel
theorem dX0_strike_38 : decode cX0_strike 38 = .ok (.iload_n 2, 1) := by decide +kernel
theorem dX0_strike_39 : decode cX0_strike 39 = .ok (.iaload, 1) := by decide +kernel
theorem dX0_strike_40 : decode cX0_strike 40 = .ok (.aload_n 0, 1) := by decide +kernel
theorem dX0_strike_41 : decode cX0_strike 41 = .ok (.getfield 18, 3) := by decide +kernel
theorem dX0_strike_44 : decode cX0_strike 44 = .ok (.iconst 5, 1) := by decide +kernel
theorem dX0_strike_45 : decode cX0_strike 45 = .ok (.iaload, 1) := by decide +kernel
theorem dX0_strike_46 : decode cX0_strike 46 = .ok (.iadd, 1) := by decide +kernel
theorem dX0_strike_47 : decode cX0_strike 47 = .ok (.if_icmp .le 5, 3) := by decide +kernel
theorem dX0_strike_50 : decode cX0_strike 50 = .ok (.iconst 0, 1) := by decide +kernel
theorem dX0_strike_51 : decode cX0_strike 51 = .ok (.ireturn, 1) := by decide +kernel
theorem dX0_strike_52 : decode cX0_strike 52 = .ok (.aload_n 3, 1) := by decide +kernel
theorem dX0_strike_53 : decode cX0_strike 53 = .ok (.getfield 140, 3) := by decide +kernel
theorem dX0_strike_56 : decode cX0_strike 56 = .ok (.iload_n 2, 1) := by decide +kernel
theorem dX0_strike_57 : decode cX0_strike 57 = .ok (.iconst 1, 1) := by decide +kernel
theorem dX0_strike_58 : decode cX0_strike 58 = .ok (.iastore, 1) := by decide +kernel
theorem dX0_strike_59 : decode cX0_strike 59 = .ok (.iconst 1, 1) := by decide +kernel
theorem dX0_strike_60 : decode cX0_strike 60 = .ok (.ireturn, 1) := by decide +kernel
theorem dX0_bitsOfThose_0 : decode cX0_bitsOfThose 0 = .ok (.iload_n 1, 1) := by decide +kernel
theorem dX0_bitsOfThose_1 : decode cX0_bitsOfThose 1 = .ok (.invokestatic 131, 3) := by decide +kernel
theorem dX0_bitsOfThose_4 : decode cX0_bitsOfThose 4 = .ok (.ifCond .ne 5, 3) := by decide +kernel
theorem dX0_bitsOfThose_7 : decode cX0_bitsOfThose 7 = .ok (.iconst 0, 1) := by decide +kernel
theorem dX0_bitsOfThose_8 : decode cX0_bitsOfThose 8 = .ok (.ireturn, 1) := by decide +kernel
theorem dX0_bitsOfThose_9 : decode cX0_bitsOfThose 9 = .ok (.iload_n 2, 1) := by decide +kernel
theorem dX0_bitsOfThose_10 : decode cX0_bitsOfThose 10 = .ok (.iload_n 3, 1) := by decide +kernel
theorem dX0_bitsOfThose_11 : decode cX0_bitsOfThose 11 = .ok (.invokestatic 108, 3) := by decide +kernel
theorem dX0_bitsOfThose_14 : decode cX0_bitsOfThose 14 = .ok (.istore 4, 2) := by decide +kernel
theorem dX0_bitsOfThose_16 : decode cX0_bitsOfThose 16 = .ok (.iconst 0, 1) := by decide +kernel
theorem dX0_bitsOfThose_17 : decode cX0_bitsOfThose 17 = .ok (.istore 5, 2) := by decide +kernel
theorem dX0_bitsOfThose_19 : decode cX0_bitsOfThose 19 = .ok (.iconst 0, 1) := by decide +kernel
theorem dX0_bitsOfThose_20 : decode cX0_bitsOfThose 20 = .ok (.istore 6, 2) := by decide +kernel
theorem dX0_bitsOfThose_22 : decode cX0_bitsOfThose 22 = .ok (.iload 6, 2) := by decide +kernel
theorem dX0_bitsOfThose_24 : decode cX0_bitsOfThose 24 = .ok (.aload_n 0, 1) := by decide +kernel
theorem dX0_bitsOfThose_25 : decode cX0_bitsOfThose 25 = .ok (.getfield 29, 3) := by decide +kernel
theorem dX0_bitsOfThose_28 : decode cX0_bitsOfThose 28 = .ok (.if_icmp .ge 43, 3) := by decide +kernel
theorem dX0_bitsOfThose_31 : decode cX0_bitsOfThose 31 = .ok (.aload_n 0, 1) := by decide +kernel
theorem dX0_bitsOfThose_32 : decode cX0_bitsOfThose 32 = .ok (.iload 6, 2) := by decide +kernel
theorem dX0_bitsOfThose_34 : decode cX0_bitsOfThose 34 = .ok (.invokevirtual 46, 3) := by decide +kernel
theorem dX0_bitsOfThose_37 : decode cX0_bitsOfThose 37 = .ok (.astore 7, 2) := by decide +kernel
theorem dX0_bitsOfThose_39 : decode cX0_bitsOfThose 39 = .ok (.aload 7, 2) := by decide +kernel
theorem dX0_bitsOfThose_41 : decode cX0_bitsOfThose 41 = .ok (.ifnull 24, 3) := by decide +kernel
theorem dX0_bitsOfThose_44 : decode cX0_bitsOfThose 44 = .ok (.aload 7, 2) := by decide +kernel
theorem dX0_bitsOfThose_46 : decode cX0_bitsOfThose 46 = .ok (.getfield 111, 3) := by decide +kernel
theorem dX0_bitsOfThose_49 : decode cX0_bitsOfThose 49 = .ok (.iload_n 1, 1) := by decide +kernel
theorem dX0_bitsOfThose_50 : decode cX0_bitsOfThose 50 = .ok (.iaload, 1) := by decide +kernel
theorem dX0_bitsOfThose_51 : decode cX0_bitsOfThose 51 = .ok (.iload 4, 2) := by decide +kernel
theorem dX0_bitsOfThose_53 : decode cX0_bitsOfThose 53 = .ok (.if_icmp .ne 12, 3) := by decide +kernel
theorem dX0_bitsOfThose_56 : decode cX0_bitsOfThose 56 = .ok (.iload 5, 2) := by decide +kernel
theorem dX0_bitsOfThose_58 : decode cX0_bitsOfThose 58 = .ok (.iconst 1, 1) := by decide +kernel
theorem dX0_bitsOfThose_59 : decode cX0_bitsOfThose 59 = .ok (.iload 6, 2) := by decide +kernel
theorem dX0_bitsOfThose_61 : decode cX0_bitsOfThose 61 = .ok (.ishl, 1) := by decide +kernel
theorem dX0_bitsOfThose_62 : decode cX0_bitsOfThose 62 = .ok (.ior, 1) := by decide +kernel
theorem dX0_bitsOfThose_63 : decode cX0_bitsOfThose 63 = .ok (.istore 5, 2) := by decide +kernel
theorem dX0_bitsOfThose_65 : decode cX0_bitsOfThose 65 = .ok (.iinc 6 1, 3) := by decide +kernel
theorem dX0_bitsOfThose_68 : decode cX0_bitsOfThose 68 = .ok (.goto (-46), 3) := by decide +kernel
theorem dX0_bitsOfThose_71 : decode cX0_bitsOfThose 71 = .ok (.iload 5, 2) := by decide +kernel
theorem dX0_bitsOfThose_73 : decode cX0_bitsOfThose 73 = .ok (.ireturn, 1) := by decide +kernel
theorem dX0_fullestPlace_0 : decode cX0_fullestPlace 0 = .ok (.iconst (-1), 1) := by decide +kernel
theorem dX0_fullestPlace_1 : decode cX0_fullestPlace 1 = .ok (.istore_n 3, 1) := by decide +kernel
theorem dX0_fullestPlace_2 : decode cX0_fullestPlace 2 = .ok (.iconst 0, 1) := by decide +kernel
theorem dX0_fullestPlace_3 : decode cX0_fullestPlace 3 = .ok (.istore 4, 2) := by decide +kernel
theorem dX0_fullestPlace_5 : decode cX0_fullestPlace 5 = .ok (.iconst 0, 1) := by decide +kernel
theorem dX0_fullestPlace_6 : decode cX0_fullestPlace 6 = .ok (.istore 5, 2) := by decide +kernel
theorem dX0_fullestPlace_8 : decode cX0_fullestPlace 8 = .ok (.iload 5, 2) := by decide +kernel
theorem dX0_fullestPlace_10 : decode cX0_fullestPlace 10 = .ok (.bipush 10, 2) := by decide +kernel
theorem dX0_fullestPlace_12 : decode cX0_fullestPlace 12 = .ok (.if_icmp .ge 36, 3) := by decide +kernel
theorem dX0_fullestPlace_15 : decode cX0_fullestPlace 15 = .ok (.aload_n 0, 1) := by decide +kernel
theorem dX0_fullestPlace_16 : decode cX0_fullestPlace 16 = .ok (.iload_n 1, 1) := by decide +kernel
theorem dX0_fullestPlace_17 : decode cX0_fullestPlace 17 = .ok (.iload_n 2, 1) := by decide +kernel
theorem dX0_fullestPlace_18 : decode cX0_fullestPlace 18 = .ok (.iload 5, 2) := by decide +kernel
theorem dX0_fullestPlace_20 : decode cX0_fullestPlace 20 = .ok (.invokevirtual 146, 3) := by decide +kernel
theorem dX0_fullestPlace_23 : decode cX0_fullestPlace 23 = .ok (.invokestatic 150, 3) := by decide +kernel
theorem dX0_fullestPlace_26 : decode cX0_fullestPlace 26 = .ok (.istore 6, 2) := by decide +kernel
theorem dX0_fullestPlace_28 : decode cX0_fullestPlace 28 = .ok (.iload 6, 2) := by decide +kernel
theorem dX0_fullestPlace_30 : decode cX0_fullestPlace 30 = .ok (.iload 4, 2) := by decide +kernel
theorem dX0_fullestPlace_32 : decode cX0_fullestPlace 32 = .ok (.if_icmp .le 10, 3) := by decide +kernel
theorem dX0_fullestPlace_35 : decode cX0_fullestPlace 35 = .ok (.iload 6, 2) := by decide +kernel
theorem dX0_fullestPlace_37 : decode cX0_fullestPlace 37 = .ok (.istore 4, 2) := by decide +kernel
theorem dX0_fullestPlace_39 : decode cX0_fullestPlace 39 = .ok (.iload 5, 2) := by decide +kernel
theorem dX0_fullestPlace_41 : decode cX0_fullestPlace 41 = .ok (.istore_n 3, 1) := by decide +kernel
theorem dX0_fullestPlace_42 : decode cX0_fullestPlace 42 = .ok (.iinc 5 1, 3) := by decide +kernel
theorem dX0_fullestPlace_45 : decode cX0_fullestPlace 45 = .ok (.goto (-37), 3) := by decide +kernel
theorem dX0_fullestPlace_48 : decode cX0_fullestPlace 48 = .ok (.iload_n 3, 1) := by decide +kernel
theorem dX0_fullestPlace_49 : decode cX0_fullestPlace 49 = .ok (.ireturn, 1) := by decide +kernel
theorem dX1_init_0 : decode cX1_init 0 = .ok (.aload_n 0, 1) := by decide +kernel
theorem dX1_init_1 : decode cX1_init 1 = .ok (.invokespecial 3, 3) := by decide +kernel
theorem dX1_init_4 : decode cX1_init 4 = .ok (.aload_n 0, 1) := by decide +kernel
theorem dX1_init_5 : decode cX1_init 5 = .ok (.bipush 60, 2) := by decide +kernel
theorem dX1_init_7 : decode cX1_init 7 = .ok (.newarray .int, 2) := by decide +kernel
theorem dX1_init_9 : decode cX1_init 9 = .ok (.putfield 9, 3) := by decide +kernel
theorem dX1_init_12 : decode cX1_init 12 = .ok (.aload_n 0, 1) := by decide +kernel
theorem dX1_init_13 : decode cX1_init 13 = .ok (.bipush 60, 2) := by decide +kernel
theorem dX1_init_15 : decode cX1_init 15 = .ok (.newarray .int, 2) := by decide +kernel
theorem dX1_init_17 : decode cX1_init 17 = .ok (.putfield 15, 3) := by decide +kernel
theorem dX1_init_20 : decode cX1_init 20 = .ok (.aload_n 0, 1) := by decide +kernel
theorem dX1_init_21 : decode cX1_init 21 = .ok (.bipush 60, 2) := by decide +kernel
theorem dX1_init_23 : decode cX1_init 23 = .ok (.newarray .int, 2) := by decide +kernel
theorem dX1_init_25 : decode cX1_init 25 = .ok (.putfield 18, 3) := by decide +kernel
theorem dX1_init_28 : decode cX1_init 28 = .ok (.aload_n 0, 1) := by decide +kernel
theorem dX1_init_29 : decode cX1_init 29 = .ok (.sipush 1100, 3) := by decide +kernel
theorem dX1_init_32 : decode cX1_init 32 = .ok (.newarray .int, 2) := by decide +kernel
theorem dX1_init_34 : decode cX1_init 34 = .ok (.putfield 21, 3) := by decide +kernel
theorem dX1_init_37 : decode cX1_init 37 = .ok (.return_, 1) := by decide +kernel
theorem dX1_slotOf_0 : decode cX1_slotOf 0 = .ok (.iconst 1, 1) := by decide +kernel
theorem dX1_slotOf_1 : decode cX1_slotOf 1 = .ok (.iload_n 0, 1) := by decide +kernel
theorem dX1_slotOf_2 : decode cX1_slotOf 2 = .ok (.bipush 10, 2) := by decide +kernel
theorem dX1_slotOf_4 : decode cX1_slotOf 4 = .ok (.imul, 1) := by decide +kernel
theorem dX1_slotOf_5 : decode cX1_slotOf 5 = .ok (.iadd, 1) := by decide +kernel
theorem dX1_slotOf_6 : decode cX1_slotOf 6 = .ok (.iload_n 1, 1) := by decide +kernel
theorem dX1_slotOf_7 : decode cX1_slotOf 7 = .ok (.iadd, 1) := by decide +kernel
theorem dX1_slotOf_8 : decode cX1_slotOf 8 = .ok (.ireturn, 1) := by decide +kernel
theorem dX1_hourOf_0 : decode cX1_hourOf 0 = .ok (.iload_n 0, 1) := by decide +kernel
theorem dX1_hourOf_1 : decode cX1_hourOf 1 = .ok (.iconst 1, 1) := by decide +kernel
theorem dX1_hourOf_2 : decode cX1_hourOf 2 = .ok (.isub, 1) := by decide +kernel
theorem dX1_hourOf_3 : decode cX1_hourOf 3 = .ok (.bipush 10, 2) := by decide +kernel
theorem dX1_hourOf_5 : decode cX1_hourOf 5 = .ok (.idiv, 1) := by decide +kernel
theorem dX1_hourOf_6 : decode cX1_hourOf 6 = .ok (.ireturn, 1) := by decide +kernel
theorem dX1_placeOf_0 : decode cX1_placeOf 0 = .ok (.iload_n 0, 1) := by decide +kernel
theorem dX1_placeOf_1 : decode cX1_placeOf 1 = .ok (.iconst 1, 1) := by decide +kernel
theorem dX1_placeOf_2 : decode cX1_placeOf 2 = .ok (.isub, 1) := by decide +kernel
theorem dX1_placeOf_3 : decode cX1_placeOf 3 = .ok (.bipush 10, 2) := by decide +kernel
theorem dX1_placeOf_5 : decode cX1_placeOf 5 = .ok (.irem, 1) := by decide +kernel
theorem dX1_placeOf_6 : decode cX1_placeOf 6 = .ok (.ireturn, 1) := by decide +kernel
theorem dX1_begin_0 : decode cX1_begin 0 = .ok (.aload_n 0, 1) := by decide +kernel
theorem dX1_begin_1 : decode cX1_begin 1 = .ok (.iload_n 1, 1) := by decide +kernel
theorem dX1_begin_2 : decode cX1_begin 2 = .ok (.putfield 24, 3) := by decide +kernel
theorem dX1_begin_5 : decode cX1_begin 5 = .ok (.aload_n 0, 1) := by decide +kernel
theorem dX1_begin_6 : decode cX1_begin 6 = .ok (.iload_n 2, 1) := by decide +kernel
theorem dX1_begin_7 : decode cX1_begin 7 = .ok (.putfield 28, 3) := by decide +kernel
theorem dX1_begin_10 : decode cX1_begin 10 = .ok (.aload_n 0, 1) := by decide +kernel
theorem dX1_begin_11 : decode cX1_begin 11 = .ok (.iconst 0, 1) := by decide +kernel
theorem dX1_begin_12 : decode cX1_begin 12 = .ok (.putfield 31, 3) := by decide +kernel
theorem dX1_begin_15 : decode cX1_begin 15 = .ok (.aload_n 0, 1) := by decide +kernel
theorem dX1_begin_16 : decode cX1_begin 16 = .ok (.iconst 0, 1) := by decide +kernel
theorem dX1_begin_17 : decode cX1_begin 17 = .ok (.putfield 34, 3) := by decide +kernel
theorem dX1_begin_20 : decode cX1_begin 20 = .ok (.aload_n 0, 1) := by decide +kernel
theorem dX1_begin_21 : decode cX1_begin 21 = .ok (.iconst 0, 1) := by decide +kernel
theorem dX1_begin_22 : decode cX1_begin 22 = .ok (.putfield 37, 3) := by decide +kernel
theorem dX1_begin_25 : decode cX1_begin 25 = .ok (.aload_n 0, 1) := by decide +kernel
theorem dX1_begin_26 : decode cX1_begin 26 = .ok (.iconst (-1), 1) := by decide +kernel
theorem dX1_begin_27 : decode cX1_begin 27 = .ok (.putfield 40, 3) := by decide +kernel
theorem dX1_begin_30 : decode cX1_begin 30 = .ok (.aload_n 0, 1) := by decide +kernel
theorem dX1_begin_31 : decode cX1_begin 31 = .ok (.iconst 0, 1) := by decide +kernel
theorem dX1_begin_32 : decode cX1_begin 32 = .ok (.putfield 43, 3) := by decide +kernel
theorem dX1_begin_35 : decode cX1_begin 35 = .ok (.aload_n 0, 1) := by decide +kernel
theorem dX1_begin_36 : decode cX1_begin 36 = .ok (.getfield 21, 3) := by decide +kernel
theorem dX1_begin_39 : decode cX1_begin 39 = .ok (.iconst 0, 1) := by decide +kernel
theorem dX1_begin_40 : decode cX1_begin 40 = .ok (.invokestatic 46, 3) := by decide +kernel
theorem dX1_begin_43 : decode cX1_begin 43 = .ok (.return_, 1) := by decide +kernel
theorem dX1_become_0 : decode cX1_become 0 = .ok (.aload_n 0, 1) := by decide +kernel
theorem dX1_become_1 : decode cX1_become 1 = .ok (.aload_n 1, 1) := by decide +kernel
theorem dX1_become_2 : decode cX1_become 2 = .ok (.getfield 24, 3) := by decide +kernel
theorem dX1_become_5 : decode cX1_become 5 = .ok (.putfield 24, 3) := by decide +kernel
theorem dX1_become_8 : decode cX1_become 8 = .ok (.aload_n 0, 1) := by decide +kernel
theorem dX1_become_9 : decode cX1_become 9 = .ok (.aload_n 1, 1) := by decide +kernel
theorem dX1_become_10 : decode cX1_become 10 = .ok (.getfield 28, 3) := by decide +kernel
theorem dX1_become_13 : decode cX1_become 13 = .ok (.putfield 28, 3) := by decide +kernel
theorem dX1_become_16 : decode cX1_become 16 = .ok (.aload_n 0, 1) := by decide +kernel
theorem dX1_become_17 : decode cX1_become 17 = .ok (.aload_n 1, 1) := by decide +kernel
theorem dX1_become_18 : decode cX1_become 18 = .ok (.getfield 31, 3) := by decide +kernel
theorem dX1_become_21 : decode cX1_become 21 = .ok (.putfield 31, 3) := by decide +kernel
theorem dX1_become_24 : decode cX1_become 24 = .ok (.aload_n 0, 1) := by decide +kernel
theorem dX1_become_25 : decode cX1_become 25 = .ok (.aload_n 1, 1) := by decide +kernel
theorem dX1_become_26 : decode cX1_become 26 = .ok (.getfield 34, 3) := by decide +kernel
theorem dX1_become_29 : decode cX1_become 29 = .ok (.putfield 34, 3) := by decide +kernel
theorem dX1_become_32 : decode cX1_become 32 = .ok (.aload_n 0, 1) := by decide +kernel
theorem dX1_become_33 : decode cX1_become 33 = .ok (.aload_n 1, 1) := by decide +kernel
theorem dX1_become_34 : decode cX1_become 34 = .ok (.getfield 37, 3) := by decide +kernel
theorem dX1_become_37 : decode cX1_become 37 = .ok (.putfield 37, 3) := by decide +kernel
theorem dX1_become_40 : decode cX1_become 40 = .ok (.aload_n 0, 1) := by decide +kernel
theorem dX1_become_41 : decode cX1_become 41 = .ok (.aload_n 1, 1) := by decide +kernel
theorem dX1_become_42 : decode cX1_become 42 = .ok (.getfield 40, 3) := by decide +kernel
theorem dX1_become_45 : decode cX1_become 45 = .ok (.putfield 40, 3) := by decide +kernel
theorem dX1_become_48 : decode cX1_become 48 = .ok (.aload_n 0, 1) := by decide +kernel
theorem dX1_become_49 : decode cX1_become 49 = .ok (.aload_n 1, 1) := by decide +kernel
theorem dX1_become_50 : decode cX1_become 50 = .ok (.getfield 43, 3) := by decide +kernel
theorem dX1_become_53 : decode cX1_become 53 = .ok (.putfield 43, 3) := by decide +kernel
theorem dX1_become_56 : decode cX1_become 56 = .ok (.aload_n 1, 1) := by decide +kernel
theorem dX1_become_57 : decode cX1_become 57 = .ok (.getfield 9, 3) := by decide +kernel
theorem dX1_become_60 : decode cX1_become 60 = .ok (.iconst 0, 1) := by decide +kernel
theorem dX1_become_61 : decode cX1_become 61 = .ok (.aload_n 0, 1) := by decide +kernel
theorem dX1_become_62 : decode cX1_become 62 = .ok (.getfield 9, 3) := by decide +kernel
theorem dX1_become_65 : decode cX1_become 65 = .ok (.iconst 0, 1) := by decide +kernel
theorem dX1_become_66 : decode cX1_become 66 = .ok (.bipush 60, 2) := by decide +kernel
theorem dX1_become_68 : decode cX1_become 68 = .ok (.invokestatic 52, 3) := by decide +kernel
theorem dX1_become_71 : decode cX1_become 71 = .ok (.aload_n 1, 1) := by decide +kernel
theorem dX1_become_72 : decode cX1_become 72 = .ok (.getfield 15, 3) := by decide +kernel
theorem dX1_become_75 : decode cX1_become 75 = .ok (.iconst 0, 1) := by decide +kernel
theorem dX1_become_76 : decode cX1_become 76 = .ok (.aload_n 0, 1) := by decide +kernel
theorem dX1_become_77 : decode cX1_become 77 = .ok (.getfield 15, 3) := by decide +kernel
theorem dX1_become_80 : decode cX1_become 80 = .ok (.iconst 0, 1) := by decide +kernel
theorem dX1_become_81 : decode cX1_become 81 = .ok (.bipush 60, 2) := by decide +kernel
theorem dX1_become_83 : decode cX1_become 83 = .ok (.invokestatic 52, 3) := by decide +kernel
theorem dX1_become_86 : decode cX1_become 86 = .ok (.aload_n 1, 1) := by decide +kernel
theorem dX1_become_87 : decode cX1_become 87 = .ok (.getfield 18, 3) := by decide +kernel
theorem dX1_become_90 : decode cX1_become 90 = .ok (.iconst 0, 1) := by decide +kernel
theorem dX1_become_91 : decode cX1_become 91 = .ok (.aload_n 0, 1) := by decide +kernel
theorem dX1_become_92 : decode cX1_become 92 = .ok (.getfield 18, 3) := by decide +kernel
theorem dX1_become_95 : decode cX1_become 95 = .ok (.iconst 0, 1) := by decide +kernel
theorem dX1_become_96 : decode cX1_become 96 = .ok (.bipush 60, 2) := by decide +kernel
theorem dX1_become_98 : decode cX1_become 98 = .ok (.invokestatic 52, 3) := by decide +kernel
theorem dX1_become_101 : decode cX1_become 101 = .ok (.aload_n 1, 1) := by decide +kernel
theorem dX1_become_102 : decode cX1_become 102 = .ok (.getfield 21, 3) := by decide +kernel
theorem dX1_become_105 : decode cX1_become 105 = .ok (.iconst 0, 1) := by decide +kernel
theorem dX1_become_106 : decode cX1_become 106 = .ok (.aload_n 0, 1) := by decide +kernel
theorem dX1_become_107 : decode cX1_become 107 = .ok (.getfield 21, 3) := by decide +kernel
theorem dX1_become_110 : decode cX1_become 110 = .ok (.iconst 0, 1) := by decide +kernel
theorem dX1_become_111 : decode cX1_become 111 = .ok (.sipush 1100, 3) := by decide +kernel
theorem dX1_become_114 : decode cX1_become 114 = .ok (.invokestatic 52, 3) := by decide +kernel
theorem dX1_become_117 : decode cX1_become 117 = .ok (.return_, 1) := by decide +kernel
theorem dX1_hasFailure_0 : decode cX1_hasFailure 0 = .ok (.iload_n 1, 1) := by decide +kernel
theorem dX1_hasFailure_1 : decode cX1_hasFailure 1 = .ok (.ifCond .lt 21, 3) := by decide +kernel
theorem dX1_hasFailure_4 : decode cX1_hasFailure 4 = .ok (.iload_n 1, 1) := by decide +kernel
theorem dX1_hasFailure_5 : decode cX1_hasFailure 5 = .ok (.aload_n 0, 1) := by decide +kernel
theorem dX1_hasFailure_6 : decode cX1_hasFailure 6 = .ok (.getfield 43, 3) := by decide +kernel
theorem dX1_hasFailure_9 : decode cX1_hasFailure 9 = .ok (.if_icmp .ge 13, 3) := by decide +kernel
theorem dX1_hasFailure_12 : decode cX1_hasFailure 12 = .ok (.iload_n 1, 1) := by decide +kernel
theorem dX1_hasFailure_13 : decode cX1_hasFailure 13 = .ok (.bipush 60, 2) := by decide +kernel
theorem dX1_hasFailure_15 : decode cX1_hasFailure 15 = .ok (.if_icmp .ge 7, 3) := by decide +kernel
theorem dX1_hasFailure_18 : decode cX1_hasFailure 18 = .ok (.iconst 1, 1) := by decide +kernel
theorem dX1_hasFailure_19 : decode cX1_hasFailure 19 = .ok (.goto 4, 3) := by decide +kernel
theorem dX1_hasFailure_22 : decode cX1_hasFailure 22 = .ok (.iconst 0, 1) := by decide +kernel
theorem dX1_hasFailure_23 : decode cX1_hasFailure 23 = .ok (.ireturn, 1) := by decide +kernel
theorem dX1_note_0 : decode cX1_note 0 = .ok (.aload_n 0, 1) := by decide +kernel
theorem dX1_note_1 : decode cX1_note 1 = .ok (.getfield 43, 3) := by decide +kernel
theorem dX1_note_4 : decode cX1_note 4 = .ok (.ifCond .lt 12, 3) := by decide +kernel
theorem dX1_note_7 : decode cX1_note 7 = .ok (.aload_n 0, 1) := by decide +kernel
theorem dX1_note_8 : decode cX1_note 8 = .ok (.getfield 43, 3) := by decide +kernel
theorem dX1_note_11 : decode cX1_note 11 = .ok (.bipush 60, 2) := by decide +kernel
theorem dX1_note_13 : decode cX1_note 13 = .ok (.if_icmp .lt 5, 3) := by decide +kernel
theorem dX1_note_16 : decode cX1_note 16 = .ok (.iconst 0, 1) := by decide +kernel
theorem dX1_note_17 : decode cX1_note 17 = .ok (.ireturn, 1) := by decide +kernel
theorem dX1_note_18 : decode cX1_note 18 = .ok (.aload_n 0, 1) := by decide +kernel
theorem dX1_note_19 : decode cX1_note 19 = .ok (.getfield 9, 3) := by decide +kernel
theorem dX1_note_22 : decode cX1_note 22 = .ok (.aload_n 0, 1) := by decide +kernel
theorem dX1_note_23 : decode cX1_note 23 = .ok (.getfield 43, 3) := by decide +kernel
theorem dX1_note_26 : decode cX1_note 26 = .ok (.iload_n 1, 1) := by decide +kernel
theorem dX1_note_27 : decode cX1_note 27 = .ok (.iastore, 1) := by decide +kernel
theorem dX1_note_28 : decode cX1_note 28 = .ok (.aload_n 0, 1) := by decide +kernel
theorem dX1_note_29 : decode cX1_note 29 = .ok (.getfield 15, 3) := by decide +kernel
theorem dX1_note_32 : decode cX1_note 32 = .ok (.aload_n 0, 1) := by decide +kernel
theorem dX1_note_33 : decode cX1_note 33 = .ok (.getfield 43, 3) := by decide +kernel
theorem dX1_note_36 : decode cX1_note 36 = .ok (.iload_n 2, 1) := by decide +kernel
theorem dX1_note_37 : decode cX1_note 37 = .ok (.iastore, 1) := by decide +kernel
theorem dX1_note_38 : decode cX1_note 38 = .ok (.aload_n 0, 1) := by decide +kernel
theorem dX1_note_39 : decode cX1_note 39 = .ok (.getfield 18, 3) := by decide +kernel
theorem dX1_note_42 : decode cX1_note 42 = .ok (.aload_n 0, 1) := by decide +kernel
theorem dX1_note_43 : decode cX1_note 43 = .ok (.getfield 43, 3) := by decide +kernel
theorem dX1_note_46 : decode cX1_note 46 = .ok (.iconst 0, 1) := by decide +kernel
theorem dX1_note_47 : decode cX1_note 47 = .ok (.iastore, 1) := by decide +kernel
theorem dX1_note_48 : decode cX1_note 48 = .ok (.aload_n 0, 1) := by decide +kernel
theorem dX1_note_49 : decode cX1_note 49 = .ok (.dup, 1) := by decide +kernel
theorem dX1_note_50 : decode cX1_note 50 = .ok (.getfield 43, 3) := by decide +kernel
theorem dX1_note_53 : decode cX1_note 53 = .ok (.iconst 1, 1) := by decide +kernel
theorem dX1_note_54 : decode cX1_note 54 = .ok (.iadd, 1) := by decide +kernel
theorem dX1_note_55 : decode cX1_note 55 = .ok (.putfield 43, 3) := by decide +kernel
theorem dX1_note_58 : decode cX1_note 58 = .ok (.iconst 1, 1) := by decide +kernel
theorem dX1_note_59 : decode cX1_note 59 = .ok (.ireturn, 1) := by decide +kernel
theorem dX1_firstGap_0 : decode cX1_firstGap 0 = .ok (.iload_n 1, 1) := by decide +kernel
theorem dX1_firstGap_1 : decode cX1_firstGap 1 = .ok (.ifCond .lt 9, 3) := by decide +kernel
theorem dX1_firstGap_4 : decode cX1_firstGap 4 = .ok (.iload_n 1, 1) := by decide +kernel
theorem dX1_firstGap_5 : decode cX1_firstGap 5 = .ok (.bipush 35, 2) := by decide +kernel
theorem dX1_firstGap_7 : decode cX1_firstGap 7 = .ok (.if_icmp .le 5, 3) := by decide +kernel
theorem dX1_firstGap_10 : decode cX1_firstGap 10 = .ok (.iconst (-1), 1) := by decide +kernel
theorem dX1_firstGap_11 : decode cX1_firstGap 11 = .ok (.ireturn, 1) := by decide +kernel
theorem dX1_firstGap_12 : decode cX1_firstGap 12 = .ok (.iload_n 1, 1) := by decide +kernel
theorem dX1_firstGap_13 : decode cX1_firstGap 13 = .ok (.bipush 30, 2) := by decide +kernel
theorem dX1_firstGap_15 : decode cX1_firstGap 15 = .ok (.imul, 1) := by decide +kernel
theorem dX1_firstGap_16 : decode cX1_firstGap 16 = .ok (.istore_n 2, 1) := by decide +kernel
theorem dX1_firstGap_17 : decode cX1_firstGap 17 = .ok (.iload_n 2, 1) := by decide +kernel
theorem dX1_firstGap_18 : decode cX1_firstGap 18 = .ok (.istore_n 3, 1) := by decide +kernel
theorem dX1_firstGap_19 : decode cX1_firstGap 19 = .ok (.iload_n 3, 1) := by decide +kernel
theorem dX1_firstGap_20 : decode cX1_firstGap 20 = .ok (.iload_n 2, 1) := by decide +kernel
theorem dX1_firstGap_21 : decode cX1_firstGap 21 = .ok (.bipush 30, 2) := by decide +kernel
theorem dX1_firstGap_23 : decode cX1_firstGap 23 = .ok (.iadd, 1) := by decide +kernel
theorem dX1_firstGap_24 : decode cX1_firstGap 24 = .ok (.if_icmp .ge 27, 3) := by decide +kernel
theorem dX1_firstGap_27 : decode cX1_firstGap 27 = .ok (.iload_n 3, 1) := by decide +kernel
theorem dX1_firstGap_28 : decode cX1_firstGap 28 = .ok (.sipush 1100, 3) := by decide +kernel
theorem dX1_firstGap_31 : decode cX1_firstGap 31 = .ok (.if_icmp .ge 20, 3) := by decide +kernel
theorem dX1_firstGap_34 : decode cX1_firstGap 34 = .ok (.aload_n 0, 1) := by decide +kernel
theorem dX1_firstGap_35 : decode cX1_firstGap 35 = .ok (.getfield 21, 3) := by decide +kernel
theorem dX1_firstGap_38 : decode cX1_firstGap 38 = .ok (.iload_n 3, 1) := by decide +kernel
theorem dX1_firstGap_39 : decode cX1_firstGap 39 = .ok (.iaload, 1) := by decide +kernel
theorem dX1_firstGap_40 : decode cX1_firstGap 40 = .ok (.ifCond .ne 5, 3) := by decide +kernel
theorem dX1_firstGap_43 : decode cX1_firstGap 43 = .ok (.iload_n 3, 1) := by decide +kernel
theorem dX1_firstGap_44 : decode cX1_firstGap 44 = .ok (.ireturn, 1) := by decide +kernel
theorem dX1_firstGap_45 : decode cX1_firstGap 45 = .ok (.iinc 3 1, 3) := by decide +kernel
theorem dX1_firstGap_48 : decode cX1_firstGap 48 = .ok (.goto (-29), 3) := by decide +kernel
theorem dX1_firstGap_51 : decode cX1_firstGap 51 = .ok (.iconst (-1), 1) := by decide +kernel
theorem dX1_firstGap_52 : decode cX1_firstGap 52 = .ok (.ireturn, 1) := by decide +kernel
theorem dX2_init_0 : decode cX2_init 0 = .ok (.aload_n 0, 1) := by decide +kernel
theorem dX2_init_1 : decode cX2_init 1 = .ok (.invokespecial 3, 3) := by decide +kernel
theorem dX2_init_4 : decode cX2_init 4 = .ok (.aload_n 0, 1) := by decide +kernel
theorem dX2_init_5 : decode cX2_init 5 = .ok (.bipush 61, 2) := by decide +kernel
theorem dX2_init_7 : decode cX2_init 7 = .ok (.newarray .int, 2) := by decide +kernel
theorem dX2_init_9 : decode cX2_init 9 = .ok (.putfield 11, 3) := by decide +kernel
theorem dX2_init_12 : decode cX2_init 12 = .ok (.aload_n 0, 1) := by decide +kernel
theorem dX2_init_13 : decode cX2_init 13 = .ok (.bipush 61, 2) := by decide +kernel
theorem dX2_init_15 : decode cX2_init 15 = .ok (.newarray .boolean, 2) := by decide +kernel
theorem dX2_init_17 : decode cX2_init 17 = .ok (.putfield 15, 3) := by decide +kernel
theorem dX2_init_20 : decode cX2_init 20 = .ok (.aload_n 0, 1) := by decide +kernel
theorem dX2_init_21 : decode cX2_init 21 = .ok (.bipush 61, 2) := by decide +kernel
theorem dX2_init_23 : decode cX2_init 23 = .ok (.newarray .int, 2) := by decide +kernel
theorem dX2_init_25 : decode cX2_init 25 = .ok (.putfield 19, 3) := by decide +kernel
theorem dX2_init_28 : decode cX2_init 28 = .ok (.return_, 1) := by decide +kernel
theorem dX2_goThrough_0 : decode cX2_goThrough 0 = .ok (.aload_n 0, 1) := by decide +kernel
theorem dX2_goThrough_1 : decode cX2_goThrough 1 = .ok (.aload_n 2, 1) := by decide +kernel
theorem dX2_goThrough_2 : decode cX2_goThrough 2 = .ok (.iconst 0, 1) := by decide +kernel
theorem dX2_goThrough_3 : decode cX2_goThrough 3 = .ok (.iaload, 1) := by decide +kernel
theorem dX2_goThrough_4 : decode cX2_goThrough 4 = .ok (.putfield 22, 3) := by decide +kernel
theorem dX2_goThrough_7 : decode cX2_goThrough 7 = .ok (.aload_n 0, 1) := by decide +kernel
theorem dX2_goThrough_8 : decode cX2_goThrough 8 = .ok (.aload_n 2, 1) := by decide +kernel
theorem dX2_goThrough_9 : decode cX2_goThrough 9 = .ok (.iconst 1, 1) := by decide +kernel
theorem dX2_goThrough_10 : decode cX2_goThrough 10 = .ok (.iaload, 1) := by decide +kernel
theorem dX2_goThrough_11 : decode cX2_goThrough 11 = .ok (.putfield 26, 3) := by decide +kernel
theorem dX2_goThrough_14 : decode cX2_goThrough 14 = .ok (.aload_n 0, 1) := by decide +kernel
theorem dX2_goThrough_15 : decode cX2_goThrough 15 = .ok (.aload_n 2, 1) := by decide +kernel
theorem dX2_goThrough_16 : decode cX2_goThrough 16 = .ok (.iconst 2, 1) := by decide +kernel
theorem dX2_goThrough_17 : decode cX2_goThrough 17 = .ok (.iaload, 1) := by decide +kernel
theorem dX2_goThrough_18 : decode cX2_goThrough 18 = .ok (.putfield 29, 3) := by decide +kernel
theorem dX2_goThrough_21 : decode cX2_goThrough 21 = .ok (.aload_n 0, 1) := by decide +kernel
theorem dX2_goThrough_22 : decode cX2_goThrough 22 = .ok (.iconst 0, 1) := by decide +kernel
theorem dX2_goThrough_23 : decode cX2_goThrough 23 = .ok (.putfield 32, 3) := by decide +kernel
theorem dX2_goThrough_26 : decode cX2_goThrough 26 = .ok (.aload_n 0, 1) := by decide +kernel
theorem dX2_goThrough_27 : decode cX2_goThrough 27 = .ok (.iconst 0, 1) := by decide +kernel
theorem dX2_goThrough_28 : decode cX2_goThrough 28 = .ok (.putfield 35, 3) := by decide +kernel
theorem dX2_goThrough_31 : decode cX2_goThrough 31 = .ok (.aload_n 0, 1) := by decide +kernel
theorem dX2_goThrough_32 : decode cX2_goThrough 32 = .ok (.iconst 0, 1) := by decide +kernel
theorem dX2_goThrough_33 : decode cX2_goThrough 33 = .ok (.putfield 38, 3) := by decide +kernel
theorem dX2_goThrough_36 : decode cX2_goThrough 36 = .ok (.aload_n 0, 1) := by decide +kernel
theorem dX2_goThrough_37 : decode cX2_goThrough 37 = .ok (.iconst (-1), 1) := by decide +kernel
theorem dX2_goThrough_38 : decode cX2_goThrough 38 = .ok (.putfield 41, 3) := by decide +kernel
theorem dX2_goThrough_41 : decode cX2_goThrough 41 = .ok (.iconst 0, 1) := by decide +kernel
theorem dX2_goThrough_42 : decode cX2_goThrough 42 = .ok (.istore 4, 2) := by decide +kernel
theorem dX2_goThrough_44 : decode cX2_goThrough 44 = .ok (.iload 4, 2) := by decide +kernel
theorem dX2_goThrough_46 : decode cX2_goThrough 46 = .ok (.aload_n 1, 1) := by decide +kernel
theorem dX2_goThrough_47 : decode cX2_goThrough 47 = .ok (.getfield 44, 3) := by decide +kernel
theorem dX2_goThrough_50 : decode cX2_goThrough 50 = .ok (.if_icmp .ge 49, 3) := by decide +kernel
theorem dX2_goThrough_53 : decode cX2_goThrough 53 = .ok (.iload 4, 2) := by decide +kernel
theorem dX2_goThrough_55 : decode cX2_goThrough 55 = .ok (.bipush 60, 2) := by decide +kernel
theorem dX2_goThrough_57 : decode cX2_goThrough 57 = .ok (.if_icmp .ge 42, 3) := by decide +kernel
theorem dX2_goThrough_60 : decode cX2_goThrough 60 = .ok (.aload_n 0, 1) := by decide +kernel
theorem dX2_goThrough_61 : decode cX2_goThrough 61 = .ok (.aload_n 1, 1) := by decide +kernel
theorem dX2_goThrough_62 : decode cX2_goThrough 62 = .ok (.getfield 49, 3) := by decide +kernel
theorem dX2_goThrough_65 : decode cX2_goThrough 65 = .ok (.iload 4, 2) := by decide +kernel
theorem dX2_goThrough_67 : decode cX2_goThrough 67 = .ok (.iaload, 1) := by decide +kernel
theorem dX2_goThrough_68 : decode cX2_goThrough 68 = .ok (.aload_n 1, 1) := by decide +kernel
theorem dX2_goThrough_69 : decode cX2_goThrough 69 = .ok (.getfield 52, 3) := by decide +kernel
theorem dX2_goThrough_72 : decode cX2_goThrough 72 = .ok (.iload 4, 2) := by decide +kernel
theorem dX2_goThrough_74 : decode cX2_goThrough 74 = .ok (.iaload, 1) := by decide +kernel
theorem dX2_goThrough_75 : decode cX2_goThrough 75 = .ok (.iconst 1, 1) := by decide +kernel
theorem dX2_goThrough_76 : decode cX2_goThrough 76 = .ok (.if_icmp .eq 9, 3) := by decide +kernel
theorem dX2_goThrough_79 : decode cX2_goThrough 79 = .ok (.iload 4, 2) := by decide +kernel
theorem dX2_goThrough_81 : decode cX2_goThrough 81 = .ok (.iload_n 3, 1) := by decide +kernel
theorem dX2_goThrough_82 : decode cX2_goThrough 82 = .ok (.if_icmp .ne 7, 3) := by decide +kernel
theorem dX2_goThrough_85 : decode cX2_goThrough 85 = .ok (.iconst 1, 1) := by decide +kernel
theorem dX2_goThrough_86 : decode cX2_goThrough 86 = .ok (.goto 4, 3) := by decide +kernel
theorem dX2_goThrough_89 : decode cX2_goThrough 89 = .ok (.iconst 0, 1) := by decide +kernel
theorem dX2_goThrough_90 : decode cX2_goThrough 90 = .ok (.invokevirtual 55, 3) := by decide +kernel
theorem dX2_goThrough_93 : decode cX2_goThrough 93 = .ok (.iinc 4 1, 3) := by decide +kernel
theorem dX2_goThrough_96 : decode cX2_goThrough 96 = .ok (.goto (-52), 3) := by decide +kernel
theorem dX2_goThrough_99 : decode cX2_goThrough 99 = .ok (.return_, 1) := by decide +kernel
theorem dX2_add_0 : decode cX2_add 0 = .ok (.aload_n 0, 1) := by decide +kernel
theorem dX2_add_1 : decode cX2_add 1 = .ok (.getfield 35, 3) := by decide +kernel
theorem dX2_add_4 : decode cX2_add 4 = .ok (.istore_n 3, 1) := by decide +kernel
theorem dX2_add_5 : decode cX2_add 5 = .ok (.iload_n 3, 1) := by decide +kernel
theorem dX2_add_6 : decode cX2_add 6 = .ok (.bipush 61, 2) := by decide +kernel
theorem dX2_add_8 : decode cX2_add 8 = .ok (.if_icmp .lt 4, 3) := by decide +kernel
theorem dX2_add_11 : decode cX2_add 11 = .ok (.return_, 1) := by decide +kernel
theorem dX2_add_12 : decode cX2_add 12 = .ok (.aload_n 0, 1) := by decide +kernel
theorem dX2_add_13 : decode cX2_add 13 = .ok (.dup, 1) := by decide +kernel
theorem dX2_add_14 : decode cX2_add 14 = .ok (.getfield 35, 3) := by decide +kernel
theorem dX2_add_17 : decode cX2_add 17 = .ok (.iconst 1, 1) := by decide +kernel
theorem dX2_add_18 : decode cX2_add 18 = .ok (.iadd, 1) := by decide +kernel
theorem dX2_add_19 : decode cX2_add 19 = .ok (.putfield 35, 3) := by decide +kernel
theorem dX2_add_22 : decode cX2_add 22 = .ok (.aload_n 0, 1) := by decide +kernel
theorem dX2_add_23 : decode cX2_add 23 = .ok (.getfield 11, 3) := by decide +kernel
theorem dX2_add_26 : decode cX2_add 26 = .ok (.iload_n 3, 1) := by decide +kernel
theorem dX2_add_27 : decode cX2_add 27 = .ok (.iload_n 1, 1) := by decide +kernel
theorem dX2_add_28 : decode cX2_add 28 = .ok (.iastore, 1) := by decide +kernel
theorem dX2_add_29 : decode cX2_add 29 = .ok (.aload_n 0, 1) := by decide +kernel
theorem dX2_add_30 : decode cX2_add 30 = .ok (.getfield 15, 3) := by decide +kernel
theorem dX2_add_33 : decode cX2_add 33 = .ok (.iload_n 3, 1) := by decide +kernel
theorem dX2_add_34 : decode cX2_add 34 = .ok (.iload_n 2, 1) := by decide +kernel
theorem dX2_add_35 : decode cX2_add 35 = .ok (.ifCond .ne 15, 3) := by decide +kernel
theorem dX2_add_38 : decode cX2_add 38 = .ok (.aload_n 0, 1) := by decide +kernel
theorem dX2_add_39 : decode cX2_add 39 = .ok (.iload_n 1, 1) := by decide +kernel
theorem dX2_add_40 : decode cX2_add 40 = .ok (.invokevirtual 59, 3) := by decide +kernel
theorem dX2_add_43 : decode cX2_add 43 = .ok (.ifCond .eq 7, 3) := by decide +kernel
theorem dX2_add_46 : decode cX2_add 46 = .ok (.iconst 1, 1) := by decide +kernel
theorem dX2_add_47 : decode cX2_add 47 = .ok (.goto 4, 3) := by decide +kernel
theorem dX2_add_50 : decode cX2_add 50 = .ok (.iconst 0, 1) := by decide +kernel
theorem dX2_add_51 : decode cX2_add 51 = .ok (.bastore, 1) := by decide +kernel
theorem dX2_add_52 : decode cX2_add 52 = .ok (.aload_n 0, 1) := by decide +kernel
theorem dX2_add_53 : decode cX2_add 53 = .ok (.getfield 15, 3) := by decide +kernel
theorem dX2_add_56 : decode cX2_add 56 = .ok (.iload_n 3, 1) := by decide +kernel
theorem dX2_add_57 : decode cX2_add 57 = .ok (.baload, 1) := by decide +kernel
theorem dX2_add_58 : decode cX2_add 58 = .ok (.ifCond .ne 4, 3) := by decide +kernel
theorem dX2_add_61 : decode cX2_add 61 = .ok (.return_, 1) := by decide +kernel
theorem dX2_add_62 : decode cX2_add 62 = .ok (.aload_n 0, 1) := by decide +kernel
theorem dX2_add_63 : decode cX2_add 63 = .ok (.iload_n 3, 1) := by decide +kernel
theorem dX2_add_64 : decode cX2_add 64 = .ok (.putfield 41, 3) := by decide +kernel
theorem dX2_add_67 : decode cX2_add 67 = .ok (.aload_n 0, 1) := by decide +kernel
theorem dX2_add_68 : decode cX2_add 68 = .ok (.iload_n 1, 1) := by decide +kernel
theorem dX2_add_69 : decode cX2_add 69 = .ok (.invokevirtual 63, 3) := by decide +kernel
theorem dX2_add_72 : decode cX2_add 72 = .ok (.aload_n 0, 1) := by decide +kernel
theorem dX2_add_73 : decode cX2_add 73 = .ok (.getfield 26, 3) := by decide +kernel
theorem dX2_add_76 : decode cX2_add 76 = .ok (.if_icmp .lt 40, 3) := by decide +kernel
theorem dX2_add_79 : decode cX2_add 79 = .ok (.aload_n 0, 1) := by decide +kernel
theorem dX2_add_80 : decode cX2_add 80 = .ok (.getfield 32, 3) := by decide +kernel
theorem dX2_add_83 : decode cX2_add 83 = .ok (.bipush 61, 2) := by decide +kernel
theorem dX2_add_85 : decode cX2_add 85 = .ok (.if_icmp .ge 31, 3) := by decide +kernel
theorem dX2_add_88 : decode cX2_add 88 = .ok (.aload_n 0, 1) := by decide +kernel
theorem dX2_add_89 : decode cX2_add 89 = .ok (.getfield 19, 3) := by decide +kernel
theorem dX2_add_92 : decode cX2_add 92 = .ok (.aload_n 0, 1) := by decide +kernel
theorem dX2_add_93 : decode cX2_add 93 = .ok (.getfield 32, 3) := by decide +kernel
theorem dX2_add_96 : decode cX2_add 96 = .ok (.iload_n 1, 1) := by decide +kernel
theorem dX2_add_97 : decode cX2_add 97 = .ok (.iastore, 1) := by decide +kernel
theorem dX2_add_98 : decode cX2_add 98 = .ok (.aload_n 0, 1) := by decide +kernel
theorem dX2_add_99 : decode cX2_add 99 = .ok (.dup, 1) := by decide +kernel
theorem dX2_add_100 : decode cX2_add 100 = .ok (.getfield 32, 3) := by decide +kernel
theorem dX2_add_103 : decode cX2_add 103 = .ok (.iconst 1, 1) := by decide +kernel
theorem dX2_add_104 : decode cX2_add 104 = .ok (.iadd, 1) := by decide +kernel
theorem dX2_add_105 : decode cX2_add 105 = .ok (.putfield 32, 3) := by decide +kernel
theorem dX2_add_108 : decode cX2_add 108 = .ok (.aload_n 0, 1) := by decide +kernel
theorem dX2_add_109 : decode cX2_add 109 = .ok (.aload_n 0, 1) := by decide +kernel
theorem dX2_add_110 : decode cX2_add 110 = .ok (.getfield 35, 3) := by decide +kernel
theorem dX2_add_113 : decode cX2_add 113 = .ok (.putfield 38, 3) := by decide +kernel
theorem dX2_add_116 : decode cX2_add 116 = .ok (.return_, 1) := by decide +kernel
theorem dX2_isNoticed_0 : decode cX2_isNoticed 0 = .ok (.aload_n 0, 1) := by decide +kernel
theorem dX2_isNoticed_1 : decode cX2_isNoticed 1 = .ok (.getfield 41, 3) := by decide +kernel
theorem dX2_isNoticed_4 : decode cX2_isNoticed 4 = .ok (.iconst (-1), 1) := by decide +kernel
theorem dX2_isNoticed_5 : decode cX2_isNoticed 5 = .ok (.if_icmp .eq 21, 3) := by decide +kernel
theorem dX2_isNoticed_8 : decode cX2_isNoticed 8 = .ok (.iload_n 1, 1) := by decide +kernel
theorem dX2_isNoticed_9 : decode cX2_isNoticed 9 = .ok (.aload_n 0, 1) := by decide +kernel
theorem dX2_isNoticed_10 : decode cX2_isNoticed 10 = .ok (.getfield 11, 3) := by decide +kernel
theorem dX2_isNoticed_13 : decode cX2_isNoticed 13 = .ok (.aload_n 0, 1) := by decide +kernel
theorem dX2_isNoticed_14 : decode cX2_isNoticed 14 = .ok (.getfield 41, 3) := by decide +kernel
theorem dX2_isNoticed_17 : decode cX2_isNoticed 17 = .ok (.iaload, 1) := by decide +kernel
theorem dX2_isNoticed_18 : decode cX2_isNoticed 18 = .ok (.isub, 1) := by decide +kernel
theorem dX2_isNoticed_19 : decode cX2_isNoticed 19 = .ok (.aload_n 0, 1) := by decide +kernel
theorem dX2_isNoticed_20 : decode cX2_isNoticed 20 = .ok (.getfield 29, 3) := by decide +kernel
theorem dX2_isNoticed_23 : decode cX2_isNoticed 23 = .ok (.if_icmp .lt 7, 3) := by decide +kernel
theorem dX2_isNoticed_26 : decode cX2_isNoticed 26 = .ok (.iconst 1, 1) := by decide +kernel
theorem dX2_isNoticed_27 : decode cX2_isNoticed 27 = .ok (.goto 4, 3) := by decide +kernel
theorem dX2_isNoticed_30 : decode cX2_isNoticed 30 = .ok (.iconst 0, 1) := by decide +kernel
theorem dX2_isNoticed_31 : decode cX2_isNoticed 31 = .ok (.ireturn, 1) := by decide +kernel
theorem dX2_doesCount_0 : decode cX2_doesCount 0 = .ok (.iload_n 1, 1) := by decide +kernel
theorem dX2_doesCount_1 : decode cX2_doesCount 1 = .ok (.ifCond .lt 24, 3) := by decide +kernel
theorem dX2_doesCount_4 : decode cX2_doesCount 4 = .ok (.iload_n 1, 1) := by decide +kernel
theorem dX2_doesCount_5 : decode cX2_doesCount 5 = .ok (.aload_n 0, 1) := by decide +kernel
theorem dX2_doesCount_6 : decode cX2_doesCount 6 = .ok (.getfield 35, 3) := by decide +kernel
theorem dX2_doesCount_9 : decode cX2_doesCount 9 = .ok (.if_icmp .ge 16, 3) := by decide +kernel
theorem dX2_doesCount_12 : decode cX2_doesCount 12 = .ok (.aload_n 0, 1) := by decide +kernel
theorem dX2_doesCount_13 : decode cX2_doesCount 13 = .ok (.getfield 15, 3) := by decide +kernel
theorem dX2_doesCount_16 : decode cX2_doesCount 16 = .ok (.iload_n 1, 1) := by decide +kernel
theorem dX2_doesCount_17 : decode cX2_doesCount 17 = .ok (.baload, 1) := by decide +kernel
theorem dX2_doesCount_18 : decode cX2_doesCount 18 = .ok (.ifCond .eq 7, 3) := by decide +kernel
theorem dX2_doesCount_21 : decode cX2_doesCount 21 = .ok (.iconst 1, 1) := by decide +kernel
theorem dX2_doesCount_22 : decode cX2_doesCount 22 = .ok (.goto 4, 3) := by decide +kernel
theorem dX2_doesCount_25 : decode cX2_doesCount 25 = .ok (.iconst 0, 1) := by decide +kernel
theorem dX2_doesCount_26 : decode cX2_doesCount 26 = .ok (.ireturn, 1) := by decide +kernel
theorem dX2_isOpen_0 : decode cX2_isOpen 0 = .ok (.iload_n 1, 1) := by decide +kernel
theorem dX2_isOpen_1 : decode cX2_isOpen 1 = .ok (.aload_n 0, 1) := by decide +kernel
theorem dX2_isOpen_2 : decode cX2_isOpen 2 = .ok (.getfield 38, 3) := by decide +kernel
theorem dX2_isOpen_5 : decode cX2_isOpen 5 = .ok (.if_icmp .lt 15, 3) := by decide +kernel
theorem dX2_isOpen_8 : decode cX2_isOpen 8 = .ok (.aload_n 0, 1) := by decide +kernel
theorem dX2_isOpen_9 : decode cX2_isOpen 9 = .ok (.iload_n 1, 1) := by decide +kernel
theorem dX2_isOpen_10 : decode cX2_isOpen 10 = .ok (.invokevirtual 67, 3) := by decide +kernel
theorem dX2_isOpen_13 : decode cX2_isOpen 13 = .ok (.ifCond .eq 7, 3) := by decide +kernel
theorem dX2_isOpen_16 : decode cX2_isOpen 16 = .ok (.iconst 1, 1) := by decide +kernel
theorem dX2_isOpen_17 : decode cX2_isOpen 17 = .ok (.goto 4, 3) := by decide +kernel
theorem dX2_isOpen_20 : decode cX2_isOpen 20 = .ok (.iconst 0, 1) := by decide +kernel
theorem dX2_isOpen_21 : decode cX2_isOpen 21 = .ok (.ireturn, 1) := by decide +kernel
theorem dX2_pointsOn_0 : decode cX2_pointsOn 0 = .ok (.iconst 0, 1) := by decide +kernel
theorem dX2_pointsOn_1 : decode cX2_pointsOn 1 = .ok (.istore_n 2, 1) := by decide +kernel
theorem dX2_pointsOn_2 : decode cX2_pointsOn 2 = .ok (.aload_n 0, 1) := by decide +kernel
theorem dX2_pointsOn_3 : decode cX2_pointsOn 3 = .ok (.getfield 38, 3) := by decide +kernel
theorem dX2_pointsOn_6 : decode cX2_pointsOn 6 = .ok (.istore_n 3, 1) := by decide +kernel
theorem dX2_pointsOn_7 : decode cX2_pointsOn 7 = .ok (.iload_n 3, 1) := by decide +kernel
theorem dX2_pointsOn_8 : decode cX2_pointsOn 8 = .ok (.aload_n 0, 1) := by decide +kernel
theorem dX2_pointsOn_9 : decode cX2_pointsOn 9 = .ok (.getfield 35, 3) := by decide +kernel
theorem dX2_pointsOn_12 : decode cX2_pointsOn 12 = .ok (.if_icmp .ge 36, 3) := by decide +kernel
theorem dX2_pointsOn_15 : decode cX2_pointsOn 15 = .ok (.aload_n 0, 1) := by decide +kernel
theorem dX2_pointsOn_16 : decode cX2_pointsOn 16 = .ok (.getfield 15, 3) := by decide +kernel
theorem dX2_pointsOn_19 : decode cX2_pointsOn 19 = .ok (.iload_n 3, 1) := by decide +kernel
theorem dX2_pointsOn_20 : decode cX2_pointsOn 20 = .ok (.baload, 1) := by decide +kernel
theorem dX2_pointsOn_21 : decode cX2_pointsOn 21 = .ok (.ifCond .eq 21, 3) := by decide +kernel
theorem dX2_pointsOn_24 : decode cX2_pointsOn 24 = .ok (.aload_n 0, 1) := by decide +kernel
theorem dX2_pointsOn_25 : decode cX2_pointsOn 25 = .ok (.getfield 11, 3) := by decide +kernel
theorem dX2_pointsOn_28 : decode cX2_pointsOn 28 = .ok (.iload_n 3, 1) := by decide +kernel
theorem dX2_pointsOn_29 : decode cX2_pointsOn 29 = .ok (.iaload, 1) := by decide +kernel
theorem dX2_pointsOn_30 : decode cX2_pointsOn 30 = .ok (.iload_n 1, 1) := by decide +kernel
theorem dX2_pointsOn_31 : decode cX2_pointsOn 31 = .ok (.aload_n 0, 1) := by decide +kernel
theorem dX2_pointsOn_32 : decode cX2_pointsOn 32 = .ok (.getfield 22, 3) := by decide +kernel
theorem dX2_pointsOn_35 : decode cX2_pointsOn 35 = .ok (.isub, 1) := by decide +kernel
theorem dX2_pointsOn_36 : decode cX2_pointsOn 36 = .ok (.if_icmp .le 6, 3) := by decide +kernel
theorem dX2_pointsOn_39 : decode cX2_pointsOn 39 = .ok (.iinc 2 1, 3) := by decide +kernel
theorem dX2_pointsOn_42 : decode cX2_pointsOn 42 = .ok (.iinc 3 1, 3) := by decide +kernel
theorem dX2_pointsOn_45 : decode cX2_pointsOn 45 = .ok (.goto (-38), 3) := by decide +kernel
theorem dX2_pointsOn_48 : decode cX2_pointsOn 48 = .ok (.iload_n 2, 1) := by decide +kernel
theorem dX2_pointsOn_49 : decode cX2_pointsOn 49 = .ok (.ireturn, 1) := by decide +kernel
theorem dX2_dayOfOldestPoint_0 : decode cX2_dayOfOldestPoint 0 = .ok (.aload_n 0, 1) := by decide +kernel
theorem dX2_dayOfOldestPoint_1 : decode cX2_dayOfOldestPoint 1 = .ok (.getfield 38, 3) := by decide +kernel
theorem dX2_dayOfOldestPoint_4 : decode cX2_dayOfOldestPoint 4 = .ok (.istore_n 2, 1) := by decide +kernel
theorem dX2_dayOfOldestPoint_5 : decode cX2_dayOfOldestPoint 5 = .ok (.iload_n 2, 1) := by decide +kernel
theorem dX2_dayOfOldestPoint_6 : decode cX2_dayOfOldestPoint 6 = .ok (.aload_n 0, 1) := by decide +kernel
theorem dX2_dayOfOldestPoint_7 : decode cX2_dayOfOldestPoint 7 = .ok (.getfield 35, 3) := by decide +kernel
theorem dX2_dayOfOldestPoint_10 : decode cX2_dayOfOldestPoint 10 = .ok (.if_icmp .ge 40, 3) := by decide +kernel
theorem dX2_dayOfOldestPoint_13 : decode cX2_dayOfOldestPoint 13 = .ok (.aload_n 0, 1) := by decide +kernel
theorem dX2_dayOfOldestPoint_14 : decode cX2_dayOfOldestPoint 14 = .ok (.getfield 15, 3) := by decide +kernel
theorem dX2_dayOfOldestPoint_17 : decode cX2_dayOfOldestPoint 17 = .ok (.iload_n 2, 1) := by decide +kernel
theorem dX2_dayOfOldestPoint_18 : decode cX2_dayOfOldestPoint 18 = .ok (.baload, 1) := by decide +kernel
theorem dX2_dayOfOldestPoint_19 : decode cX2_dayOfOldestPoint 19 = .ok (.ifCond .eq 25, 3) := by decide +kernel
theorem dX2_dayOfOldestPoint_22 : decode cX2_dayOfOldestPoint 22 = .ok (.aload_n 0, 1) := by decide +kernel
theorem dX2_dayOfOldestPoint_23 : decode cX2_dayOfOldestPoint 23 = .ok (.getfield 11, 3) := by decide +kernel
theorem dX2_dayOfOldestPoint_26 : decode cX2_dayOfOldestPoint 26 = .ok (.iload_n 2, 1) := by decide +kernel
theorem dX2_dayOfOldestPoint_27 : decode cX2_dayOfOldestPoint 27 = .ok (.iaload, 1) := by decide +kernel
theorem dX2_dayOfOldestPoint_28 : decode cX2_dayOfOldestPoint 28 = .ok (.iload_n 1, 1) := by decide +kernel
theorem dX2_dayOfOldestPoint_29 : decode cX2_dayOfOldestPoint 29 = .ok (.aload_n 0, 1) := by decide +kernel
theorem dX2_dayOfOldestPoint_30 : decode cX2_dayOfOldestPoint 30 = .ok (.getfield 22, 3) := by decide +kernel
theorem dX2_dayOfOldestPoint_33 : decode cX2_dayOfOldestPoint 33 = .ok (.isub, 1) := by decide +kernel
theorem dX2_dayOfOldestPoint_34 : decode cX2_dayOfOldestPoint 34 = .ok (.if_icmp .le 10, 3) := by decide +kernel
theorem dX2_dayOfOldestPoint_37 : decode cX2_dayOfOldestPoint 37 = .ok (.aload_n 0, 1) := by decide +kernel
theorem dX2_dayOfOldestPoint_38 : decode cX2_dayOfOldestPoint 38 = .ok (.getfield 11, 3) := by decide +kernel
theorem dX2_dayOfOldestPoint_41 : decode cX2_dayOfOldestPoint 41 = .ok (.iload_n 2, 1) := by decide +kernel
theorem dX2_dayOfOldestPoint_42 : decode cX2_dayOfOldestPoint 42 = .ok (.iaload, 1) := by decide +kernel
theorem dX2_dayOfOldestPoint_43 : decode cX2_dayOfOldestPoint 43 = .ok (.ireturn, 1) := by decide +kernel
theorem dX2_dayOfOldestPoint_44 : decode cX2_dayOfOldestPoint 44 = .ok (.iinc 2 1, 3) := by decide +kernel
theorem dX2_dayOfOldestPoint_47 : decode cX2_dayOfOldestPoint 47 = .ok (.goto (-42), 3) := by decide +kernel
theorem dX2_dayOfOldestPoint_50 : decode cX2_dayOfOldestPoint 50 = .ok (.iconst (-1), 1) := by decide +kernel
theorem dX2_dayOfOldestPoint_51 : decode cX2_dayOfOldestPoint 51 = .ok (.ireturn, 1) := by decide +kernel
theorem dX2_dayOfViolation_0 : decode cX2_dayOfViolation 0 = .ok (.iload_n 1, 1) := by decide +kernel
theorem dX2_dayOfViolation_1 : decode cX2_dayOfViolation 1 = .ok (.ifCond .lt 20, 3) := by decide +kernel
theorem dX2_dayOfViolation_4 : decode cX2_dayOfViolation 4 = .ok (.iload_n 1, 1) := by decide +kernel
theorem dX2_dayOfViolation_5 : decode cX2_dayOfViolation 5 = .ok (.aload_n 0, 1) := by decide +kernel
theorem dX2_dayOfViolation_6 : decode cX2_dayOfViolation 6 = .ok (.getfield 32, 3) := by decide +kernel
theorem dX2_dayOfViolation_9 : decode cX2_dayOfViolation 9 = .ok (.if_icmp .ge 12, 3) := by decide +kernel
theorem dX2_dayOfViolation_12 : decode cX2_dayOfViolation 12 = .ok (.aload_n 0, 1) := by decide +kernel
theorem dX2_dayOfViolation_13 : decode cX2_dayOfViolation 13 = .ok (.getfield 19, 3) := by decide +kernel
theorem dX2_dayOfViolation_16 : decode cX2_dayOfViolation 16 = .ok (.iload_n 1, 1) := by decide +kernel
theorem dX2_dayOfViolation_17 : decode cX2_dayOfViolation 17 = .ok (.iaload, 1) := by decide +kernel
theorem dX2_dayOfViolation_18 : decode cX2_dayOfViolation 18 = .ok (.goto 4, 3) := by decide +kernel
theorem dX2_dayOfViolation_21 : decode cX2_dayOfViolation 21 = .ok (.iconst (-1), 1) := by decide +kernel
theorem dX2_dayOfViolation_22 : decode cX2_dayOfViolation 22 = .ok (.ireturn, 1) := by decide +kernel
theorem dX3_init_0 : decode cX3_init 0 = .ok (.aload_n 0, 1) := by decide +kernel
theorem dX3_init_1 : decode cX3_init 1 = .ok (.invokespecial 3, 3) := by decide +kernel
theorem dX3_init_4 : decode cX3_init 4 = .ok (.aload_n 0, 1) := by decide +kernel
theorem dX3_init_5 : decode cX3_init 5 = .ok (.sipush 400, 3) := by decide +kernel
theorem dX3_init_8 : decode cX3_init 8 = .ok (.newarray .byte, 2) := by decide +kernel
theorem dX3_init_10 : decode cX3_init 10 = .ok (.putfield 11, 3) := by decide +kernel
theorem dX3_init_13 : decode cX3_init 13 = .ok (.return_, 1) := by decide +kernel
theorem dX3_hasRoomForFive_0 : decode cX3_hasRoomForFive 0 = .ok (.aload_n 0, 1) := by decide +kernel
theorem dX3_hasRoomForFive_1 : decode cX3_hasRoomForFive 1 = .ok (.getfield 15, 3) := by decide +kernel
theorem dX3_hasRoomForFive_4 : decode cX3_hasRoomForFive 4 = .ok (.bipush 20, 2) := by decide +kernel
theorem dX3_hasRoomForFive_6 : decode cX3_hasRoomForFive 6 = .ok (.iadd, 1) := by decide +kernel
theorem dX3_hasRoomForFive_7 : decode cX3_hasRoomForFive 7 = .ok (.sipush 400, 3) := by decide +kernel
theorem dX3_hasRoomForFive_10 : decode cX3_hasRoomForFive 10 = .ok (.if_icmp .gt 7, 3) := by decide +kernel
theorem dX3_hasRoomForFive_13 : decode cX3_hasRoomForFive 13 = .ok (.iconst 1, 1) := by decide +kernel
theorem dX3_hasRoomForFive_14 : decode cX3_hasRoomForFive 14 = .ok (.goto 4, 3) := by decide +kernel
theorem dX3_hasRoomForFive_17 : decode cX3_hasRoomForFive 17 = .ok (.iconst 0, 1) := by decide +kernel
theorem dX3_hasRoomForFive_18 : decode cX3_hasRoomForFive 18 = .ok (.ireturn, 1) := by decide +kernel
theorem dX3_put_0 : decode cX3_put 0 = .ok (.bipush 24, 2) := by decide +kernel
theorem dX3_put_2 : decode cX3_put 2 = .ok (.istore_n 2, 1) := by decide +kernel
theorem dX3_put_3 : decode cX3_put 3 = .ok (.iload_n 2, 1) := by decide +kernel
theorem dX3_put_4 : decode cX3_put 4 = .ok (.ifCond .lt 49, 3) := by decide +kernel
theorem dX3_put_7 : decode cX3_put 7 = .ok (.aload_n 0, 1) := by decide +kernel
theorem dX3_put_8 : decode cX3_put 8 = .ok (.getfield 15, 3) := by decide +kernel
theorem dX3_put_11 : decode cX3_put 11 = .ok (.ifCond .lt 36, 3) := by decide +kernel
theorem dX3_put_14 : decode cX3_put 14 = .ok (.aload_n 0, 1) := by decide +kernel
theorem dX3_put_15 : decode cX3_put 15 = .ok (.getfield 15, 3) := by decide +kernel
theorem dX3_put_18 : decode cX3_put 18 = .ok (.sipush 400, 3) := by decide +kernel
theorem dX3_put_21 : decode cX3_put 21 = .ok (.if_icmp .ge 26, 3) := by decide +kernel
theorem dX3_put_24 : decode cX3_put 24 = .ok (.aload_n 0, 1) := by decide +kernel
theorem dX3_put_25 : decode cX3_put 25 = .ok (.getfield 11, 3) := by decide +kernel
theorem dX3_put_28 : decode cX3_put 28 = .ok (.aload_n 0, 1) := by decide +kernel
theorem dX3_put_29 : decode cX3_put 29 = .ok (.getfield 15, 3) := by decide +kernel
theorem dX3_put_32 : decode cX3_put 32 = .ok (.iload_n 1, 1) := by decide +kernel
theorem dX3_put_33 : decode cX3_put 33 = .ok (.iload_n 2, 1) := by decide +kernel
theorem dX3_put_34 : decode cX3_put 34 = .ok (.ishr, 1) := by decide +kernel
theorem dX3_put_35 : decode cX3_put 35 = .ok (.i2b, 1) := by decide +kernel
theorem dX3_put_36 : decode cX3_put 36 = .ok (.bastore, 1) := by decide +kernel
theorem dX3_put_37 : decode cX3_put 37 = .ok (.aload_n 0, 1) := by decide +kernel
theorem dX3_put_38 : decode cX3_put 38 = .ok (.dup, 1) := by decide +kernel
theorem dX3_put_39 : decode cX3_put 39 = .ok (.getfield 15, 3) := by decide +kernel
theorem dX3_put_42 : decode cX3_put 42 = .ok (.iconst 1, 1) := by decide +kernel
theorem dX3_put_43 : decode cX3_put 43 = .ok (.iadd, 1) := by decide +kernel
theorem dX3_put_44 : decode cX3_put 44 = .ok (.putfield 15, 3) := by decide +kernel
theorem dX3_put_47 : decode cX3_put 47 = .ok (.iinc 2 (-8), 3) := by decide +kernel
theorem dX3_put_50 : decode cX3_put 50 = .ok (.goto (-47), 3) := by decide +kernel
theorem dX3_put_53 : decode cX3_put 53 = .ok (.return_, 1) := by decide +kernel
theorem dX3_rewind_0 : decode cX3_rewind 0 = .ok (.aload_n 0, 1) := by decide +kernel
theorem dX3_rewind_1 : decode cX3_rewind 1 = .ok (.iconst 0, 1) := by decide +kernel
theorem dX3_rewind_2 : decode cX3_rewind 2 = .ok (.putfield 19, 3) := by decide +kernel
theorem dX3_rewind_5 : decode cX3_rewind 5 = .ok (.return_, 1) := by decide +kernel
theorem dX3_readToken_0 : decode cX3_readToken 0 = .ok (.aload_n 0, 1) := by decide +kernel
theorem dX3_readToken_1 : decode cX3_readToken 1 = .ok (.getfield 19, 3) := by decide +kernel
theorem dX3_readToken_4 : decode cX3_readToken 4 = .ok (.aload_n 0, 1) := by decide +kernel
theorem dX3_readToken_5 : decode cX3_readToken 5 = .ok (.getfield 15, 3) := by decide +kernel
theorem dX3_readToken_8 : decode cX3_readToken 8 = .ok (.if_icmp .ge 30, 3) := by decide +kernel
theorem dX3_readToken_11 : decode cX3_readToken 11 = .ok (.aload_n 0, 1) := by decide +kernel
theorem dX3_readToken_12 : decode cX3_readToken 12 = .ok (.aload_n 0, 1) := by decide +kernel
theorem dX3_readToken_13 : decode cX3_readToken 13 = .ok (.getfield 19, 3) := by decide +kernel
theorem dX3_readToken_16 : decode cX3_readToken 16 = .ok (.invokevirtual 22, 3) := by decide +kernel
theorem dX3_readToken_19 : decode cX3_readToken 19 = .ok (.invokestatic 26, 3) := by decide +kernel
theorem dX3_readToken_22 : decode cX3_readToken 22 = .ok (.ifCond .eq 16, 3) := by decide +kernel
theorem dX3_readToken_25 : decode cX3_readToken 25 = .ok (.aload_n 0, 1) := by decide +kernel
theorem dX3_readToken_26 : decode cX3_readToken 26 = .ok (.dup, 1) := by decide +kernel
theorem dX3_readToken_27 : decode cX3_readToken 27 = .ok (.getfield 19, 3) := by decide +kernel
theorem dX3_readToken_30 : decode cX3_readToken 30 = .ok (.iconst 1, 1) := by decide +kernel
theorem dX3_readToken_31 : decode cX3_readToken 31 = .ok (.iadd, 1) := by decide +kernel
theorem dX3_readToken_32 : decode cX3_readToken 32 = .ok (.putfield 19, 3) := by decide +kernel
theorem dX3_readToken_35 : decode cX3_readToken 35 = .ok (.goto (-35), 3) := by decide +kernel
theorem dX3_readToken_38 : decode cX3_readToken 38 = .ok (.aload_n 0, 1) := by decide +kernel
theorem dX3_readToken_39 : decode cX3_readToken 39 = .ok (.aload_n 0, 1) := by decide +kernel
theorem dX3_readToken_40 : decode cX3_readToken 40 = .ok (.getfield 19, 3) := by decide +kernel
theorem dX3_readToken_43 : decode cX3_readToken 43 = .ok (.putfield 30, 3) := by decide +kernel
theorem dX3_readToken_46 : decode cX3_readToken 46 = .ok (.aload_n 0, 1) := by decide +kernel
theorem dX3_readToken_47 : decode cX3_readToken 47 = .ok (.aload_n 0, 1) := by decide +kernel
theorem dX3_readToken_48 : decode cX3_readToken 48 = .ok (.getfield 19, 3) := by decide +kernel
theorem dX3_readToken_51 : decode cX3_readToken 51 = .ok (.invokevirtual 22, 3) := by decide +kernel
theorem dX3_readToken_54 : decode cX3_readToken 54 = .ok (.istore_n 1, 1) := by decide +kernel
theorem dX3_readToken_55 : decode cX3_readToken 55 = .ok (.iload_n 1, 1) := by decide +kernel
theorem dX3_readToken_56 : decode cX3_readToken 56 = .ok (.iconst (-1), 1) := by decide +kernel
theorem dX3_readToken_57 : decode cX3_readToken 57 = .ok (.if_icmp .ne 11, 3) := by decide +kernel
theorem dX3_readToken_60 : decode cX3_readToken 60 = .ok (.aload_n 0, 1) := by decide +kernel
theorem dX3_readToken_61 : decode cX3_readToken 61 = .ok (.iconst 0, 1) := by decide +kernel
theorem dX3_readToken_62 : decode cX3_readToken 62 = .ok (.putfield 33, 3) := by decide +kernel
theorem dX3_readToken_65 : decode cX3_readToken 65 = .ok (.goto 56, 3) := by decide +kernel
theorem dX3_readToken_68 : decode cX3_readToken 68 = .ok (.iload_n 1, 1) := by decide +kernel
theorem dX3_readToken_69 : decode cX3_readToken 69 = .ok (.invokestatic 36, 3) := by decide +kernel
theorem dX3_readToken_72 : decode cX3_readToken 72 = .ok (.ifCond .eq 10, 3) := by decide +kernel
theorem dX3_readToken_75 : decode cX3_readToken 75 = .ok (.aload_n 0, 1) := by decide +kernel
theorem dX3_readToken_76 : decode cX3_readToken 76 = .ok (.invokevirtual 39, 3) := by decide +kernel
theorem dX3_readToken_79 : decode cX3_readToken 79 = .ok (.goto 42, 3) := by decide +kernel
theorem dX3_readToken_82 : decode cX3_readToken 82 = .ok (.iload_n 1, 1) := by decide +kernel
theorem dX3_readToken_83 : decode cX3_readToken 83 = .ok (.invokestatic 42, 3) := by decide +kernel
theorem dX3_readToken_86 : decode cX3_readToken 86 = .ok (.ifCond .eq 10, 3) := by decide +kernel
theorem dX3_readToken_89 : decode cX3_readToken 89 = .ok (.aload_n 0, 1) := by decide +kernel
theorem dX3_readToken_90 : decode cX3_readToken 90 = .ok (.invokevirtual 45, 3) := by decide +kernel
theorem dX3_readToken_93 : decode cX3_readToken 93 = .ok (.goto 28, 3) := by decide +kernel
theorem dX3_readToken_96 : decode cX3_readToken 96 = .ok (.aload_n 0, 1) := by decide +kernel
theorem dX3_readToken_97 : decode cX3_readToken 97 = .ok (.iload_n 1, 1) := by decide +kernel
theorem dX3_readToken_98 : decode cX3_readToken 98 = .ok (.bipush 59, 2) := by decide +kernel
theorem dX3_readToken_100 : decode cX3_readToken 100 = .ok (.if_icmp .ne 7, 3) := by decide +kernel
theorem dX3_readToken_103 : decode cX3_readToken 103 = .ok (.iconst 3, 1) := by decide +kernel
theorem dX3_readToken_104 : decode cX3_readToken 104 = .ok (.goto 4, 3) := by decide +kernel
theorem dX3_readToken_107 : decode cX3_readToken 107 = .ok (.iconst 4, 1) := by decide +kernel
theorem dX3_readToken_108 : decode cX3_readToken 108 = .ok (.putfield 33, 3) := by decide +kernel
theorem dX3_readToken_111 : decode cX3_readToken 111 = .ok (.aload_n 0, 1) := by decide +kernel
theorem dX3_readToken_112 : decode cX3_readToken 112 = .ok (.dup, 1) := by decide +kernel
theorem dX3_readToken_113 : decode cX3_readToken 113 = .ok (.getfield 19, 3) := by decide +kernel
theorem dX3_readToken_116 : decode cX3_readToken 116 = .ok (.iconst 1, 1) := by decide +kernel
theorem dX3_readToken_117 : decode cX3_readToken 117 = .ok (.iadd, 1) := by decide +kernel
theorem dX3_readToken_118 : decode cX3_readToken 118 = .ok (.putfield 19, 3) := by decide +kernel
theorem dX3_readToken_121 : decode cX3_readToken 121 = .ok (.return_, 1) := by decide +kernel
theorem dX3_readWord_0 : decode cX3_readWord 0 = .ok (.aload_n 0, 1) := by decide +kernel
theorem dX3_readWord_1 : decode cX3_readWord 1 = .ok (.iconst 1, 1) := by decide +kernel
theorem dX3_readWord_2 : decode cX3_readWord 2 = .ok (.putfield 33, 3) := by decide +kernel
theorem dX3_readWord_5 : decode cX3_readWord 5 = .ok (.aload_n 0, 1) := by decide +kernel
theorem dX3_readWord_6 : decode cX3_readWord 6 = .ok (.getfield 19, 3) := by decide +kernel
theorem dX3_readWord_9 : decode cX3_readWord 9 = .ok (.aload_n 0, 1) := by decide +kernel
theorem dX3_readWord_10 : decode cX3_readWord 10 = .ok (.getfield 15, 3) := by decide +kernel
theorem dX3_readWord_13 : decode cX3_readWord 13 = .ok (.if_icmp .ge 30, 3) := by decide +kernel
theorem dX3_readWord_16 : decode cX3_readWord 16 = .ok (.aload_n 0, 1) := by decide +kernel
theorem dX3_readWord_17 : decode cX3_readWord 17 = .ok (.aload_n 0, 1) := by decide +kernel
theorem dX3_readWord_18 : decode cX3_readWord 18 = .ok (.getfield 19, 3) := by decide +kernel
theorem dX3_readWord_21 : decode cX3_readWord 21 = .ok (.invokevirtual 22, 3) := by decide +kernel
theorem dX3_readWord_24 : decode cX3_readWord 24 = .ok (.invokestatic 36, 3) := by decide +kernel
theorem dX3_readWord_27 : decode cX3_readWord 27 = .ok (.ifCond .eq 16, 3) := by decide +kernel
theorem dX3_readWord_30 : decode cX3_readWord 30 = .ok (.aload_n 0, 1) := by decide +kernel
theorem dX3_readWord_31 : decode cX3_readWord 31 = .ok (.dup, 1) := by decide +kernel
theorem dX3_readWord_32 : decode cX3_readWord 32 = .ok (.getfield 19, 3) := by decide +kernel
theorem dX3_readWord_35 : decode cX3_readWord 35 = .ok (.iconst 1, 1) := by decide +kernel
theorem dX3_readWord_36 : decode cX3_readWord 36 = .ok (.iadd, 1) := by decide +kernel
theorem dX3_readWord_37 : decode cX3_readWord 37 = .ok (.putfield 19, 3) := by decide +kernel
theorem dX3_readWord_40 : decode cX3_readWord 40 = .ok (.goto (-35), 3) := by decide +kernel
theorem dX3_readWord_43 : decode cX3_readWord 43 = .ok (.return_, 1) := by decide +kernel
theorem dX3_readNumber_0 : decode cX3_readNumber 0 = .ok (.aload_n 0, 1) := by decide +kernel
theorem dX3_readNumber_1 : decode cX3_readNumber 1 = .ok (.iconst 0, 1) := by decide +kernel
theorem dX3_readNumber_2 : decode cX3_readNumber 2 = .ok (.putfield 48, 3) := by decide +kernel
theorem dX3_readNumber_5 : decode cX3_readNumber 5 = .ok (.aload_n 0, 1) := by decide +kernel
theorem dX3_readNumber_6 : decode cX3_readNumber 6 = .ok (.getfield 19, 3) := by decide +kernel
theorem dX3_readNumber_9 : decode cX3_readNumber 9 = .ok (.aload_n 0, 1) := by decide +kernel
theorem dX3_readNumber_10 : decode cX3_readNumber 10 = .ok (.getfield 15, 3) := by decide +kernel
theorem dX3_readNumber_13 : decode cX3_readNumber 13 = .ok (.if_icmp .ge 66, 3) := by decide +kernel
theorem dX3_readNumber_16 : decode cX3_readNumber 16 = .ok (.aload_n 0, 1) := by decide +kernel
theorem dX3_readNumber_17 : decode cX3_readNumber 17 = .ok (.aload_n 0, 1) := by decide +kernel
theorem dX3_readNumber_18 : decode cX3_readNumber 18 = .ok (.getfield 19, 3) := by decide +kernel
theorem dX3_readNumber_21 : decode cX3_readNumber 21 = .ok (.invokevirtual 22, 3) := by decide +kernel
theorem dX3_readNumber_24 : decode cX3_readNumber 24 = .ok (.invokestatic 42, 3) := by decide +kernel
theorem dX3_readNumber_27 : decode cX3_readNumber 27 = .ok (.ifCond .eq 52, 3) := by decide +kernel
theorem dX3_readNumber_30 : decode cX3_readNumber 30 = .ok (.aload_n 0, 1) := by decide +kernel
theorem dX3_readNumber_31 : decode cX3_readNumber 31 = .ok (.getfield 19, 3) := by decide +kernel
theorem dX3_readNumber_34 : decode cX3_readNumber 34 = .ok (.aload_n 0, 1) := by decide +kernel
theorem dX3_readNumber_35 : decode cX3_readNumber 35 = .ok (.getfield 30, 3) := by decide +kernel
theorem dX3_readNumber_38 : decode cX3_readNumber 38 = .ok (.isub, 1) := by decide +kernel
theorem dX3_readNumber_39 : decode cX3_readNumber 39 = .ok (.iconst 4, 1) := by decide +kernel
theorem dX3_readNumber_40 : decode cX3_readNumber 40 = .ok (.if_icmp .ge 26, 3) := by decide +kernel
theorem dX3_readNumber_43 : decode cX3_readNumber 43 = .ok (.aload_n 0, 1) := by decide +kernel
theorem dX3_readNumber_44 : decode cX3_readNumber 44 = .ok (.aload_n 0, 1) := by decide +kernel
theorem dX3_readNumber_45 : decode cX3_readNumber 45 = .ok (.getfield 48, 3) := by decide +kernel
theorem dX3_readNumber_48 : decode cX3_readNumber 48 = .ok (.bipush 10, 2) := by decide +kernel
theorem dX3_readNumber_50 : decode cX3_readNumber 50 = .ok (.imul, 1) := by decide +kernel
theorem dX3_readNumber_51 : decode cX3_readNumber 51 = .ok (.aload_n 0, 1) := by decide +kernel
theorem dX3_readNumber_52 : decode cX3_readNumber 52 = .ok (.aload_n 0, 1) := by decide +kernel
theorem dX3_readNumber_53 : decode cX3_readNumber 53 = .ok (.getfield 19, 3) := by decide +kernel
theorem dX3_readNumber_56 : decode cX3_readNumber 56 = .ok (.invokevirtual 22, 3) := by decide +kernel
theorem dX3_readNumber_59 : decode cX3_readNumber 59 = .ok (.iadd, 1) := by decide +kernel
theorem dX3_readNumber_60 : decode cX3_readNumber 60 = .ok (.bipush 48, 2) := by decide +kernel
theorem dX3_readNumber_62 : decode cX3_readNumber 62 = .ok (.isub, 1) := by decide +kernel
theorem dX3_readNumber_63 : decode cX3_readNumber 63 = .ok (.putfield 48, 3) := by decide +kernel
theorem dX3_readNumber_66 : decode cX3_readNumber 66 = .ok (.aload_n 0, 1) := by decide +kernel
theorem dX3_readNumber_67 : decode cX3_readNumber 67 = .ok (.dup, 1) := by decide +kernel
theorem dX3_readNumber_68 : decode cX3_readNumber 68 = .ok (.getfield 19, 3) := by decide +kernel
theorem dX3_readNumber_71 : decode cX3_readNumber 71 = .ok (.iconst 1, 1) := by decide +kernel
theorem dX3_readNumber_72 : decode cX3_readNumber 72 = .ok (.iadd, 1) := by decide +kernel
theorem dX3_readNumber_73 : decode cX3_readNumber 73 = .ok (.putfield 19, 3) := by decide +kernel
theorem dX3_readNumber_76 : decode cX3_readNumber 76 = .ok (.goto (-71), 3) := by decide +kernel
theorem dX3_readNumber_79 : decode cX3_readNumber 79 = .ok (.aload_n 0, 1) := by decide +kernel
theorem dX3_readNumber_80 : decode cX3_readNumber 80 = .ok (.aload_n 0, 1) := by decide +kernel
theorem dX3_readNumber_81 : decode cX3_readNumber 81 = .ok (.getfield 19, 3) := by decide +kernel
theorem dX3_readNumber_84 : decode cX3_readNumber 84 = .ok (.aload_n 0, 1) := by decide +kernel
theorem dX3_readNumber_85 : decode cX3_readNumber 85 = .ok (.getfield 30, 3) := by decide +kernel
theorem dX3_readNumber_88 : decode cX3_readNumber 88 = .ok (.isub, 1) := by decide +kernel
theorem dX3_readNumber_89 : decode cX3_readNumber 89 = .ok (.iconst 4, 1) := by decide +kernel
theorem dX3_readNumber_90 : decode cX3_readNumber 90 = .ok (.if_icmp .le 7, 3) := by decide +kernel
theorem dX3_readNumber_93 : decode cX3_readNumber 93 = .ok (.iconst 4, 1) := by decide +kernel
theorem dX3_readNumber_94 : decode cX3_readNumber 94 = .ok (.goto 4, 3) := by decide +kernel
theorem dX3_readNumber_97 : decode cX3_readNumber 97 = .ok (.iconst 2, 1) := by decide +kernel
theorem dX3_readNumber_98 : decode cX3_readNumber 98 = .ok (.putfield 33, 3) := by decide +kernel
theorem dX3_readNumber_101 : decode cX3_readNumber 101 = .ok (.return_, 1) := by decide +kernel
theorem dX3_isWord_0 : decode cX3_isWord 0 = .ok (.aload_n 0, 1) := by decide +kernel
theorem dX3_isWord_1 : decode cX3_isWord 1 = .ok (.getfield 33, 3) := by decide +kernel
theorem dX3_isWord_4 : decode cX3_isWord 4 = .ok (.iconst 1, 1) := by decide +kernel
theorem dX3_isWord_5 : decode cX3_isWord 5 = .ok (.if_icmp .ne 19, 3) := by decide +kernel
theorem dX3_isWord_8 : decode cX3_isWord 8 = .ok (.aload_n 0, 1) := by decide +kernel
theorem dX3_isWord_9 : decode cX3_isWord 9 = .ok (.getfield 19, 3) := by decide +kernel
theorem dX3_isWord_12 : decode cX3_isWord 12 = .ok (.aload_n 0, 1) := by decide +kernel
theorem dX3_isWord_13 : decode cX3_isWord 13 = .ok (.getfield 30, 3) := by decide +kernel
theorem dX3_isWord_16 : decode cX3_isWord 16 = .ok (.isub, 1) := by decide +kernel
theorem dX3_isWord_17 : decode cX3_isWord 17 = .ok (.aload_n 1, 1) := by decide +kernel
theorem dX3_isWord_18 : decode cX3_isWord 18 = .ok (.invokevirtual 51, 3) := by decide +kernel
theorem dX3_isWord_21 : decode cX3_isWord 21 = .ok (.if_icmp .eq 5, 3) := by decide +kernel
theorem dX3_isWord_24 : decode cX3_isWord 24 = .ok (.iconst 0, 1) := by decide +kernel
theorem dX3_isWord_25 : decode cX3_isWord 25 = .ok (.ireturn, 1) := by decide +kernel
theorem dX3_isWord_26 : decode cX3_isWord 26 = .ok (.iconst 0, 1) := by decide +kernel
theorem dX3_isWord_27 : decode cX3_isWord 27 = .ok (.istore_n 2, 1) := by decide +kernel
theorem dX3_isWord_28 : decode cX3_isWord 28 = .ok (.iload_n 2, 1) := by decide +kernel
theorem dX3_isWord_29 : decode cX3_isWord 29 = .ok (.aload_n 1, 1) := by decide +kernel
theorem dX3_isWord_30 : decode cX3_isWord 30 = .ok (.invokevirtual 51, 3) := by decide +kernel
theorem dX3_isWord_33 : decode cX3_isWord 33 = .ok (.if_icmp .ge 29, 3) := by decide +kernel
theorem dX3_isWord_36 : decode cX3_isWord 36 = .ok (.aload_n 0, 1) := by decide +kernel
theorem dX3_isWord_37 : decode cX3_isWord 37 = .ok (.aload_n 0, 1) := by decide +kernel
theorem dX3_isWord_38 : decode cX3_isWord 38 = .ok (.getfield 30, 3) := by decide +kernel
theorem dX3_isWord_41 : decode cX3_isWord 41 = .ok (.iload_n 2, 1) := by decide +kernel
theorem dX3_isWord_42 : decode cX3_isWord 42 = .ok (.iadd, 1) := by decide +kernel
theorem dX3_isWord_43 : decode cX3_isWord 43 = .ok (.invokevirtual 22, 3) := by decide +kernel
theorem dX3_isWord_46 : decode cX3_isWord 46 = .ok (.aload_n 1, 1) := by decide +kernel
theorem dX3_isWord_47 : decode cX3_isWord 47 = .ok (.iload_n 2, 1) := by decide +kernel
theorem dX3_isWord_48 : decode cX3_isWord 48 = .ok (.invokevirtual 57, 3) := by decide +kernel
theorem dX3_isWord_51 : decode cX3_isWord 51 = .ok (.if_icmp .eq 5, 3) := by decide +kernel
theorem dX3_isWord_54 : decode cX3_isWord 54 = .ok (.iconst 0, 1) := by decide +kernel
theorem dX3_isWord_55 : decode cX3_isWord 55 = .ok (.ireturn, 1) := by decide +kernel
theorem dX3_isWord_56 : decode cX3_isWord 56 = .ok (.iinc 2 1, 3) := by decide +kernel
theorem dX3_isWord_59 : decode cX3_isWord 59 = .ok (.goto (-31), 3) := by decide +kernel
theorem dX3_isWord_62 : decode cX3_isWord 62 = .ok (.iconst 1, 1) := by decide +kernel
theorem dX3_isWord_63 : decode cX3_isWord 63 = .ok (.ireturn, 1) := by decide +kernel
theorem dX3_byteAt_0 : decode cX3_byteAt 0 = .ok (.iload_n 1, 1) := by decide +kernel
theorem dX3_byteAt_1 : decode cX3_byteAt 1 = .ok (.ifCond .lt 31, 3) := by decide +kernel
theorem dX3_byteAt_4 : decode cX3_byteAt 4 = .ok (.iload_n 1, 1) := by decide +kernel
theorem dX3_byteAt_5 : decode cX3_byteAt 5 = .ok (.aload_n 0, 1) := by decide +kernel
theorem dX3_byteAt_6 : decode cX3_byteAt 6 = .ok (.getfield 15, 3) := by decide +kernel
theorem dX3_byteAt_9 : decode cX3_byteAt 9 = .ok (.if_icmp .ge 23, 3) := by decide +kernel
theorem dX3_byteAt_12 : decode cX3_byteAt 12 = .ok (.iload_n 1, 1) := by decide +kernel
theorem dX3_byteAt_13 : decode cX3_byteAt 13 = .ok (.sipush 400, 3) := by decide +kernel
theorem dX3_byteAt_16 : decode cX3_byteAt 16 = .ok (.if_icmp .ge 16, 3) := by decide +kernel
theorem dX3_byteAt_19 : decode cX3_byteAt 19 = .ok (.aload_n 0, 1) := by decide +kernel
theorem dX3_byteAt_20 : decode cX3_byteAt 20 = .ok (.getfield 11, 3) := by decide +kernel
theorem dX3_byteAt_23 : decode cX3_byteAt 23 = .ok (.iload_n 1, 1) := by decide +kernel
theorem dX3_byteAt_24 : decode cX3_byteAt 24 = .ok (.baload, 1) := by decide +kernel
theorem dX3_byteAt_25 : decode cX3_byteAt 25 = .ok (.sipush 255, 3) := by decide +kernel
theorem dX3_byteAt_28 : decode cX3_byteAt 28 = .ok (.iand, 1) := by decide +kernel
theorem dX3_byteAt_29 : decode cX3_byteAt 29 = .ok (.goto 4, 3) := by decide +kernel
theorem dX3_byteAt_32 : decode cX3_byteAt 32 = .ok (.iconst (-1), 1) := by decide +kernel
theorem dX3_byteAt_33 : decode cX3_byteAt 33 = .ok (.ireturn, 1) := by decide +kernel
theorem dX3_isBlank_0 : decode cX3_isBlank 0 = .ok (.iload_n 0, 1) := by decide +kernel
theorem dX3_isBlank_1 : decode cX3_isBlank 1 = .ok (.bipush 32, 2) := by decide +kernel
theorem dX3_isBlank_3 : decode cX3_isBlank 3 = .ok (.if_icmp .eq 9, 3) := by decide +kernel
theorem dX3_isBlank_6 : decode cX3_isBlank 6 = .ok (.iload_n 0, 1) := by decide +kernel
theorem dX3_isBlank_7 : decode cX3_isBlank 7 = .ok (.bipush 10, 2) := by decide +kernel
theorem dX3_isBlank_9 : decode cX3_isBlank 9 = .ok (.if_icmp .ne 7, 3) := by decide +kernel
theorem dX3_isBlank_12 : decode cX3_isBlank 12 = .ok (.iconst 1, 1) := by decide +kernel
theorem dX3_isBlank_13 : decode cX3_isBlank 13 = .ok (.goto 4, 3) := by decide +kernel
theorem dX3_isBlank_16 : decode cX3_isBlank 16 = .ok (.iconst 0, 1) := by decide +kernel
theorem dX3_isBlank_17 : decode cX3_isBlank 17 = .ok (.ireturn, 1) := by decide +kernel
theorem dX3_isLetter_0 : decode cX3_isLetter 0 = .ok (.iload_n 0, 1) := by decide +kernel
theorem dX3_isLetter_1 : decode cX3_isLetter 1 = .ok (.bipush 97, 2) := by decide +kernel
theorem dX3_isLetter_3 : decode cX3_isLetter 3 = .ok (.if_icmp .lt 13, 3) := by decide +kernel
theorem dX3_isLetter_6 : decode cX3_isLetter 6 = .ok (.iload_n 0, 1) := by decide +kernel
theorem dX3_isLetter_7 : decode cX3_isLetter 7 = .ok (.bipush 122, 2) := by decide +kernel
theorem dX3_isLetter_9 : decode cX3_isLetter 9 = .ok (.if_icmp .gt 7, 3) := by decide +kernel
theorem dX3_isLetter_12 : decode cX3_isLetter 12 = .ok (.iconst 1, 1) := by decide +kernel
theorem dX3_isLetter_13 : decode cX3_isLetter 13 = .ok (.goto 4, 3) := by decide +kernel
theorem dX3_isLetter_16 : decode cX3_isLetter 16 = .ok (.iconst 0, 1) := by decide +kernel
theorem dX3_isLetter_17 : decode cX3_isLetter 17 = .ok (.ireturn, 1) := by decide +kernel
theorem dX3_isDigit_0 : decode cX3_isDigit 0 = .ok (.iload_n 0, 1) := by decide +kernel
theorem dX3_isDigit_1 : decode cX3_isDigit 1 = .ok (.bipush 48, 2) := by decide +kernel
theorem dX3_isDigit_3 : decode cX3_isDigit 3 = .ok (.if_icmp .lt 13, 3) := by decide +kernel
theorem dX3_isDigit_6 : decode cX3_isDigit 6 = .ok (.iload_n 0, 1) := by decide +kernel
theorem dX3_isDigit_7 : decode cX3_isDigit 7 = .ok (.bipush 57, 2) := by decide +kernel
theorem dX3_isDigit_9 : decode cX3_isDigit 9 = .ok (.if_icmp .gt 7, 3) := by decide +kernel
theorem dX3_isDigit_12 : decode cX3_isDigit 12 = .ok (.iconst 1, 1) := by decide +kernel
theorem dX3_isDigit_13 : decode cX3_isDigit 13 = .ok (.goto 4, 3) := by decide +kernel
theorem dX3_isDigit_16 : decode cX3_isDigit 16 = .ok (.iconst 0, 1) := by decide +kernel
theorem dX3_isDigit_17 : decode cX3_isDigit 17 = .ok (.ireturn, 1) := by decide +kernel
theorem dX4_init_0 : decode cX4_init 0 = .ok (.aload_n 0, 1) := by decide +kernel
theorem dX4_init_1 : decode cX4_init 1 = .ok (.invokespecial 3, 3) := by decide +kernel
theorem dX4_init_4 : decode cX4_init 4 = .ok (.aload_n 0, 1) := by decide +kernel
theorem dX4_init_5 : decode cX4_init 5 = .ok (.iconst 5, 1) := by decide +kernel
theorem dX4_init_6 : decode cX4_init 6 = .ok (.newarray .int, 2) := by decide +kernel
theorem dX4_init_8 : decode cX4_init 8 = .ok (.putfield 11, 3) := by decide +kernel
theorem dX4_init_11 : decode cX4_init 11 = .ok (.aload_n 0, 1) := by decide +kernel
theorem dX4_init_12 : decode cX4_init 12 = .ok (.aload_n 1, 1) := by decide +kernel
theorem dX4_init_13 : decode cX4_init 13 = .ok (.putfield 15, 3) := by decide +kernel
theorem dX4_init_16 : decode cX4_init 16 = .ok (.return_, 1) := by decide +kernel
theorem dX4_perform_0 : decode cX4_perform 0 = .ok (.aload_n 0, 1) := by decide +kernel
theorem dX4_perform_1 : decode cX4_perform 1 = .ok (.iconst 0, 1) := by decide +kernel
theorem dX4_perform_2 : decode cX4_perform 2 = .ok (.putfield 19, 3) := by decide +kernel
theorem dX4_perform_5 : decode cX4_perform 5 = .ok (.aload_n 0, 1) := by decide +kernel
theorem dX4_perform_6 : decode cX4_perform 6 = .ok (.getfield 15, 3) := by decide +kernel
theorem dX4_perform_9 : decode cX4_perform 9 = .ok (.invokevirtual 23, 3) := by decide +kernel
theorem dX4_perform_12 : decode cX4_perform 12 = .ok (.iconst 0, 1) := by decide +kernel
theorem dX4_perform_13 : decode cX4_perform 13 = .ok (.istore_n 2, 1) := by decide +kernel
theorem dX4_perform_14 : decode cX4_perform 14 = .ok (.iload_n 2, 1) := by decide +kernel
theorem dX4_perform_15 : decode cX4_perform 15 = .ok (.sipush 400, 3) := by decide +kernel
theorem dX4_perform_18 : decode cX4_perform 18 = .ok (.if_icmp .gt 36, 3) := by decide +kernel
theorem dX4_perform_21 : decode cX4_perform 21 = .ok (.aload_n 0, 1) := by decide +kernel
theorem dX4_perform_22 : decode cX4_perform 22 = .ok (.getfield 15, 3) := by decide +kernel
theorem dX4_perform_25 : decode cX4_perform 25 = .ok (.invokevirtual 28, 3) := by decide +kernel
theorem dX4_perform_28 : decode cX4_perform 28 = .ok (.aload_n 0, 1) := by decide +kernel
theorem dX4_perform_29 : decode cX4_perform 29 = .ok (.getfield 15, 3) := by decide +kernel
theorem dX4_perform_32 : decode cX4_perform 32 = .ok (.getfield 31, 3) := by decide +kernel
theorem dX4_perform_35 : decode cX4_perform 35 = .ok (.ifCond .eq 11, 3) := by decide +kernel
theorem dX4_perform_38 : decode cX4_perform 38 = .ok (.aload_n 0, 1) := by decide +kernel
theorem dX4_perform_39 : decode cX4_perform 39 = .ok (.aload_n 1, 1) := by decide +kernel
theorem dX4_perform_40 : decode cX4_perform 40 = .ok (.invokevirtual 34, 3) := by decide +kernel
theorem dX4_perform_43 : decode cX4_perform 43 = .ok (.ifCond .ne 5, 3) := by decide +kernel
theorem dX4_perform_46 : decode cX4_perform 46 = .ok (.iload_n 2, 1) := by decide +kernel
theorem dX4_perform_47 : decode cX4_perform 47 = .ok (.ireturn, 1) := by decide +kernel
theorem dX4_perform_48 : decode cX4_perform 48 = .ok (.iinc 2 1, 3) := by decide +kernel
theorem dX4_perform_51 : decode cX4_perform 51 = .ok (.goto (-37), 3) := by decide +kernel
theorem dX4_perform_54 : decode cX4_perform 54 = .ok (.iconst (-1), 1) := by decide +kernel
theorem dX4_perform_55 : decode cX4_perform 55 = .ok (.ireturn, 1) := by decide +kernel
theorem dX4_performOne_0 : decode cX4_performOne 0 = .ok (.aload_n 0, 1) := by decide +kernel
theorem dX4_performOne_1 : decode cX4_performOne 1 = .ok (.getfield 15, 3) := by decide +kernel
theorem dX4_performOne_4 : decode cX4_performOne 4 = .ok (.getfield 38, 3) := by decide +kernel
theorem dX4_performOne_7 : decode cX4_performOne 7 = .ok (.istore_n 2, 1) := by decide +kernel
theorem dX4_performOne_8 : decode cX4_performOne 8 = .ok (.aload_n 0, 1) := by decide +kernel
theorem dX4_performOne_9 : decode cX4_performOne 9 = .ok (.invokevirtual 41, 3) := by decide +kernel
theorem dX4_performOne_12 : decode cX4_performOne 12 = .ok (.istore_n 3, 1) := by decide +kernel
theorem dX4_performOne_13 : decode cX4_performOne 13 = .ok (.iload_n 3, 1) := by decide +kernel
theorem dX4_performOne_14 : decode cX4_performOne 14 = .ok (.ifCond .lt 9, 3) := by decide +kernel
theorem dX4_performOne_17 : decode cX4_performOne 17 = .ok (.iload_n 3, 1) := by decide +kernel
theorem dX4_performOne_18 : decode cX4_performOne 18 = .ok (.bipush 6, 2) := by decide +kernel
theorem dX4_performOne_20 : decode cX4_performOne 20 = .ok (.if_icmp .lt 10, 3) := by decide +kernel
theorem dX4_performOne_23 : decode cX4_performOne 23 = .ok (.aload_n 0, 1) := by decide +kernel
theorem dX4_performOne_24 : decode cX4_performOne 24 = .ok (.iconst 1, 1) := by decide +kernel
theorem dX4_performOne_25 : decode cX4_performOne 25 = .ok (.iload_n 2, 1) := by decide +kernel
theorem dX4_performOne_26 : decode cX4_performOne 26 = .ok (.invokevirtual 45, 3) := by decide +kernel
theorem dX4_performOne_29 : decode cX4_performOne 29 = .ok (.ireturn, 1) := by decide +kernel
theorem dX4_performOne_30 : decode cX4_performOne 30 = .ok (.aload_n 0, 1) := by decide +kernel
theorem dX4_performOne_31 : decode cX4_performOne 31 = .ok (.aload_n 1, 1) := by decide +kernel
theorem dX4_performOne_32 : decode cX4_performOne 32 = .ok (.iload_n 3, 1) := by decide +kernel
theorem dX4_performOne_33 : decode cX4_performOne 33 = .ok (.invokevirtual 49, 3) := by decide +kernel
theorem dX4_performOne_36 : decode cX4_performOne 36 = .ok (.ifCond .ne 5, 3) := by decide +kernel
theorem dX4_performOne_39 : decode cX4_performOne 39 = .ok (.iconst 0, 1) := by decide +kernel
theorem dX4_performOne_40 : decode cX4_performOne 40 = .ok (.ireturn, 1) := by decide +kernel
theorem dX4_performOne_41 : decode cX4_performOne 41 = .ok (.iload_n 3, 1) := by decide +kernel
theorem dX4_performOne_42 : decode cX4_performOne 42 = .ok (.iconst 4, 1) := by decide +kernel
theorem dX4_performOne_43 : decode cX4_performOne 43 = .ok (.if_icmp .ne 12, 3) := by decide +kernel
theorem dX4_performOne_46 : decode cX4_performOne 46 = .ok (.aload_n 0, 1) := by decide +kernel
theorem dX4_performOne_47 : decode cX4_performOne 47 = .ok (.invokevirtual 53, 3) := by decide +kernel
theorem dX4_performOne_50 : decode cX4_performOne 50 = .ok (.ifCond .ne 5, 3) := by decide +kernel
theorem dX4_performOne_53 : decode cX4_performOne 53 = .ok (.iconst 0, 1) := by decide +kernel
theorem dX4_performOne_54 : decode cX4_performOne 54 = .ok (.ireturn, 1) := by decide +kernel
theorem dX4_performOne_55 : decode cX4_performOne 55 = .ok (.aload_n 0, 1) := by decide +kernel
theorem dX4_performOne_56 : decode cX4_performOne 56 = .ok (.getfield 15, 3) := by decide +kernel
theorem dX4_performOne_59 : decode cX4_performOne 59 = .ok (.invokevirtual 28, 3) := by decide +kernel
theorem dX4_performOne_62 : decode cX4_performOne 62 = .ok (.aload_n 0, 1) := by decide +kernel
theorem dX4_performOne_63 : decode cX4_performOne 63 = .ok (.getfield 15, 3) := by decide +kernel
theorem dX4_performOne_66 : decode cX4_performOne 66 = .ok (.getfield 31, 3) := by decide +kernel
theorem dX4_performOne_69 : decode cX4_performOne 69 = .ok (.iconst 3, 1) := by decide +kernel
theorem dX4_performOne_70 : decode cX4_performOne 70 = .ok (.if_icmp .eq 16, 3) := by decide +kernel
theorem dX4_performOne_73 : decode cX4_performOne 73 = .ok (.aload_n 0, 1) := by decide +kernel
theorem dX4_performOne_74 : decode cX4_performOne 74 = .ok (.iconst 1, 1) := by decide +kernel
theorem dX4_performOne_75 : decode cX4_performOne 75 = .ok (.aload_n 0, 1) := by decide +kernel
theorem dX4_performOne_76 : decode cX4_performOne 76 = .ok (.getfield 15, 3) := by decide +kernel
theorem dX4_performOne_79 : decode cX4_performOne 79 = .ok (.getfield 38, 3) := by decide +kernel
theorem dX4_performOne_82 : decode cX4_performOne 82 = .ok (.invokevirtual 45, 3) := by decide +kernel
theorem dX4_performOne_85 : decode cX4_performOne 85 = .ok (.ireturn, 1) := by decide +kernel
theorem dX4_performOne_86 : decode cX4_performOne 86 = .ok (.aload_n 0, 1) := by decide +kernel
theorem dX4_performOne_87 : decode cX4_performOne 87 = .ok (.aload_n 1, 1) := by decide +kernel
theorem dX4_performOne_88 : decode cX4_performOne 88 = .ok (.iload_n 3, 1) := by decide +kernel
theorem dX4_performOne_89 : decode cX4_performOne 89 = .ok (.invokevirtual 57, 3) := by decide +kernel
theorem dX4_performOne_92 : decode cX4_performOne 92 = .ok (.ifCond .ne 12, 3) := by decide +kernel
theorem dX4_performOne_95 : decode cX4_performOne 95 = .ok (.aload_n 0, 1) := by decide +kernel
theorem dX4_performOne_96 : decode cX4_performOne 96 = .ok (.iconst 3, 1) := by decide +kernel
theorem dX4_performOne_97 : decode cX4_performOne 97 = .ok (.iload_n 2, 1) := by decide +kernel
theorem dX4_performOne_98 : decode cX4_performOne 98 = .ok (.invokevirtual 45, 3) := by decide +kernel
theorem dX4_performOne_101 : decode cX4_performOne 101 = .ok (.ifCond .eq 7, 3) := by decide +kernel
theorem dX4_performOne_104 : decode cX4_performOne 104 = .ok (.iconst 1, 1) := by decide +kernel
theorem dX4_performOne_105 : decode cX4_performOne 105 = .ok (.goto 4, 3) := by decide +kernel
theorem dX4_performOne_108 : decode cX4_performOne 108 = .ok (.iconst 0, 1) := by decide +kernel
theorem dX4_performOne_109 : decode cX4_performOne 109 = .ok (.ireturn, 1) := by decide +kernel
theorem dX4_refuse_0 : decode cX4_refuse 0 = .ok (.aload_n 0, 1) := by decide +kernel
theorem dX4_refuse_1 : decode cX4_refuse 1 = .ok (.iload_n 1, 1) := by decide +kernel
theorem dX4_refuse_2 : decode cX4_refuse 2 = .ok (.bipush 8, 2) := by decide +kernel
theorem dX4_refuse_4 : decode cX4_refuse 4 = .ok (.iload_n 2, 1) := by decide +kernel
theorem dX4_refuse_5 : decode cX4_refuse 5 = .ok (.imul, 1) := by decide +kernel
theorem dX4_refuse_6 : decode cX4_refuse 6 = .ok (.iadd, 1) := by decide +kernel
theorem dX4_refuse_7 : decode cX4_refuse 7 = .ok (.putfield 19, 3) := by decide +kernel
theorem dX4_refuse_10 : decode cX4_refuse 10 = .ok (.iconst 0, 1) := by decide +kernel
theorem dX4_refuse_11 : decode cX4_refuse 11 = .ok (.ireturn, 1) := by decide +kernel
theorem dX4_formOfWord_0 : decode cX4_formOfWord 0 = .ok (.aload_n 0, 1) := by decide +kernel
theorem dX4_formOfWord_1 : decode cX4_formOfWord 1 = .ok (.getfield 15, 3) := by decide +kernel
theorem dX4_formOfWord_4 : decode cX4_formOfWord 4 = .ok (.ldc 60, 2) := by decide +kernel
theorem dX4_formOfWord_6 : decode cX4_formOfWord 6 = .ok (.invokevirtual 62, 3) := by decide +kernel
theorem dX4_formOfWord_9 : decode cX4_formOfWord 9 = .ok (.ifCond .eq 5, 3) := by decide +kernel
theorem dX4_formOfWord_12 : decode cX4_formOfWord 12 = .ok (.iconst 0, 1) := by decide +kernel
theorem dX4_formOfWord_13 : decode cX4_formOfWord 13 = .ok (.ireturn, 1) := by decide +kernel
theorem dX4_formOfWord_14 : decode cX4_formOfWord 14 = .ok (.aload_n 0, 1) := by decide +kernel
theorem dX4_formOfWord_15 : decode cX4_formOfWord 15 = .ok (.getfield 15, 3) := by decide +kernel
theorem dX4_formOfWord_18 : decode cX4_formOfWord 18 = .ok (.ldc 66, 2) := by decide +kernel
theorem dX4_formOfWord_20 : decode cX4_formOfWord 20 = .ok (.invokevirtual 62, 3) := by decide +kernel
theorem dX4_formOfWord_23 : decode cX4_formOfWord 23 = .ok (.ifCond .eq 5, 3) := by decide +kernel
theorem dX4_formOfWord_26 : decode cX4_formOfWord 26 = .ok (.iconst 1, 1) := by decide +kernel
theorem dX4_formOfWord_27 : decode cX4_formOfWord 27 = .ok (.ireturn, 1) := by decide +kernel
theorem dX4_formOfWord_28 : decode cX4_formOfWord 28 = .ok (.aload_n 0, 1) := by decide +kernel
theorem dX4_formOfWord_29 : decode cX4_formOfWord 29 = .ok (.getfield 15, 3) := by decide +kernel
theorem dX4_formOfWord_32 : decode cX4_formOfWord 32 = .ok (.ldc 68, 2) := by decide +kernel
theorem dX4_formOfWord_34 : decode cX4_formOfWord 34 = .ok (.invokevirtual 62, 3) := by decide +kernel
theorem dX4_formOfWord_37 : decode cX4_formOfWord 37 = .ok (.ifCond .eq 5, 3) := by decide +kernel
theorem dX4_formOfWord_40 : decode cX4_formOfWord 40 = .ok (.iconst 2, 1) := by decide +kernel
theorem dX4_formOfWord_41 : decode cX4_formOfWord 41 = .ok (.ireturn, 1) := by decide +kernel
theorem dX4_formOfWord_42 : decode cX4_formOfWord 42 = .ok (.aload_n 0, 1) := by decide +kernel
theorem dX4_formOfWord_43 : decode cX4_formOfWord 43 = .ok (.getfield 15, 3) := by decide +kernel
theorem dX4_formOfWord_46 : decode cX4_formOfWord 46 = .ok (.ldc 70, 2) := by decide +kernel
theorem dX4_formOfWord_48 : decode cX4_formOfWord 48 = .ok (.invokevirtual 62, 3) := by decide +kernel
theorem dX4_formOfWord_51 : decode cX4_formOfWord 51 = .ok (.ifCond .eq 5, 3) := by decide +kernel
theorem dX4_formOfWord_54 : decode cX4_formOfWord 54 = .ok (.iconst 3, 1) := by decide +kernel
theorem dX4_formOfWord_55 : decode cX4_formOfWord 55 = .ok (.ireturn, 1) := by decide +kernel
theorem dX4_formOfWord_56 : decode cX4_formOfWord 56 = .ok (.aload_n 0, 1) := by decide +kernel
theorem dX4_formOfWord_57 : decode cX4_formOfWord 57 = .ok (.getfield 15, 3) := by decide +kernel
theorem dX4_formOfWord_60 : decode cX4_formOfWord 60 = .ok (.ldc 72, 2) := by decide +kernel
theorem dX4_formOfWord_62 : decode cX4_formOfWord 62 = .ok (.invokevirtual 62, 3) := by decide +kernel
theorem dX4_formOfWord_65 : decode cX4_formOfWord 65 = .ok (.ifCond .eq 5, 3) := by decide +kernel
theorem dX4_formOfWord_68 : decode cX4_formOfWord 68 = .ok (.iconst 4, 1) := by decide +kernel
theorem dX4_formOfWord_69 : decode cX4_formOfWord 69 = .ok (.ireturn, 1) := by decide +kernel
theorem dX4_formOfWord_70 : decode cX4_formOfWord 70 = .ok (.aload_n 0, 1) := by decide +kernel
theorem dX4_formOfWord_71 : decode cX4_formOfWord 71 = .ok (.getfield 15, 3) := by decide +kernel
theorem dX4_formOfWord_74 : decode cX4_formOfWord 74 = .ok (.ldc 74, 2) := by decide +kernel
theorem dX4_formOfWord_76 : decode cX4_formOfWord 76 = .ok (.invokevirtual 62, 3) := by decide +kernel
theorem dX4_formOfWord_79 : decode cX4_formOfWord 79 = .ok (.ifCond .eq 7, 3) := by decide +kernel
theorem dX4_formOfWord_82 : decode cX4_formOfWord 82 = .ok (.iconst 5, 1) := by decide +kernel
theorem dX4_formOfWord_83 : decode cX4_formOfWord 83 = .ok (.goto 4, 3) := by decide +kernel
theorem dX4_formOfWord_86 : decode cX4_formOfWord 86 = .ok (.iconst (-1), 1) := by decide +kernel
theorem dX4_formOfWord_87 : decode cX4_formOfWord 87 = .ok (.ireturn, 1) := by decide +kernel
theorem dX4_readNumbers_0 : decode cX4_readNumbers 0 = .ok (.getstatic 76, 3) := by decide +kernel
theorem dX4_readNumbers_3 : decode cX4_readNumbers 3 = .ok (.iload_n 2, 1) := by decide +kernel
theorem dX4_readNumbers_4 : decode cX4_readNumbers 4 = .ok (.iaload, 1) := by decide +kernel
theorem dX4_readNumbers_5 : decode cX4_readNumbers 5 = .ok (.istore_n 3, 1) := by decide +kernel
theorem dX4_readNumbers_6 : decode cX4_readNumbers 6 = .ok (.iconst 0, 1) := by decide +kernel
theorem dX4_readNumbers_7 : decode cX4_readNumbers 7 = .ok (.istore 4, 2) := by decide +kernel
theorem dX4_readNumbers_9 : decode cX4_readNumbers 9 = .ok (.iload 4, 2) := by decide +kernel
theorem dX4_readNumbers_11 : decode cX4_readNumbers 11 = .ok (.iload_n 3, 1) := by decide +kernel
theorem dX4_readNumbers_12 : decode cX4_readNumbers 12 = .ok (.if_icmp .ge 91, 3) := by decide +kernel
theorem dX4_readNumbers_15 : decode cX4_readNumbers 15 = .ok (.iload 4, 2) := by decide +kernel
theorem dX4_readNumbers_17 : decode cX4_readNumbers 17 = .ok (.iconst 5, 1) := by decide +kernel
theorem dX4_readNumbers_18 : decode cX4_readNumbers 18 = .ok (.if_icmp .ge 85, 3) := by decide +kernel
theorem dX4_readNumbers_21 : decode cX4_readNumbers 21 = .ok (.aload_n 0, 1) := by decide +kernel
theorem dX4_readNumbers_22 : decode cX4_readNumbers 22 = .ok (.getfield 15, 3) := by decide +kernel
theorem dX4_readNumbers_25 : decode cX4_readNumbers 25 = .ok (.invokevirtual 28, 3) := by decide +kernel
theorem dX4_readNumbers_28 : decode cX4_readNumbers 28 = .ok (.aload_n 0, 1) := by decide +kernel
theorem dX4_readNumbers_29 : decode cX4_readNumbers 29 = .ok (.getfield 15, 3) := by decide +kernel
theorem dX4_readNumbers_32 : decode cX4_readNumbers 32 = .ok (.getfield 31, 3) := by decide +kernel
theorem dX4_readNumbers_35 : decode cX4_readNumbers 35 = .ok (.iconst 2, 1) := by decide +kernel
theorem dX4_readNumbers_36 : decode cX4_readNumbers 36 = .ok (.if_icmp .eq 16, 3) := by decide +kernel
theorem dX4_readNumbers_39 : decode cX4_readNumbers 39 = .ok (.aload_n 0, 1) := by decide +kernel
theorem dX4_readNumbers_40 : decode cX4_readNumbers 40 = .ok (.iconst 1, 1) := by decide +kernel
theorem dX4_readNumbers_41 : decode cX4_readNumbers 41 = .ok (.aload_n 0, 1) := by decide +kernel
theorem dX4_readNumbers_42 : decode cX4_readNumbers 42 = .ok (.getfield 15, 3) := by decide +kernel
theorem dX4_readNumbers_45 : decode cX4_readNumbers 45 = .ok (.getfield 38, 3) := by decide +kernel
theorem dX4_readNumbers_48 : decode cX4_readNumbers 48 = .ok (.invokevirtual 45, 3) := by decide +kernel
theorem dX4_readNumbers_51 : decode cX4_readNumbers 51 = .ok (.ireturn, 1) := by decide +kernel
theorem dX4_readNumbers_52 : decode cX4_readNumbers 52 = .ok (.aload_n 0, 1) := by decide +kernel
theorem dX4_readNumbers_53 : decode cX4_readNumbers 53 = .ok (.aload_n 1, 1) := by decide +kernel
theorem dX4_readNumbers_54 : decode cX4_readNumbers 54 = .ok (.iload_n 2, 1) := by decide +kernel
theorem dX4_readNumbers_55 : decode cX4_readNumbers 55 = .ok (.iload 4, 2) := by decide +kernel
theorem dX4_readNumbers_57 : decode cX4_readNumbers 57 = .ok (.aload_n 0, 1) := by decide +kernel
theorem dX4_readNumbers_58 : decode cX4_readNumbers 58 = .ok (.getfield 15, 3) := by decide +kernel
theorem dX4_readNumbers_61 : decode cX4_readNumbers 61 = .ok (.getfield 79, 3) := by decide +kernel
theorem dX4_readNumbers_64 : decode cX4_readNumbers 64 = .ok (.invokevirtual 82, 3) := by decide +kernel
theorem dX4_readNumbers_67 : decode cX4_readNumbers 67 = .ok (.ifCond .ne 16, 3) := by decide +kernel
theorem dX4_readNumbers_70 : decode cX4_readNumbers 70 = .ok (.aload_n 0, 1) := by decide +kernel
theorem dX4_readNumbers_71 : decode cX4_readNumbers 71 = .ok (.iconst 2, 1) := by decide +kernel
theorem dX4_readNumbers_72 : decode cX4_readNumbers 72 = .ok (.aload_n 0, 1) := by decide +kernel
theorem dX4_readNumbers_73 : decode cX4_readNumbers 73 = .ok (.getfield 15, 3) := by decide +kernel
theorem dX4_readNumbers_76 : decode cX4_readNumbers 76 = .ok (.getfield 38, 3) := by decide +kernel
theorem dX4_readNumbers_79 : decode cX4_readNumbers 79 = .ok (.invokevirtual 45, 3) := by decide +kernel
theorem dX4_readNumbers_82 : decode cX4_readNumbers 82 = .ok (.ireturn, 1) := by decide +kernel
theorem dX4_readNumbers_83 : decode cX4_readNumbers 83 = .ok (.aload_n 0, 1) := by decide +kernel
theorem dX4_readNumbers_84 : decode cX4_readNumbers 84 = .ok (.getfield 11, 3) := by decide +kernel
theorem dX4_readNumbers_87 : decode cX4_readNumbers 87 = .ok (.iload 4, 2) := by decide +kernel
theorem dX4_readNumbers_89 : decode cX4_readNumbers 89 = .ok (.aload_n 0, 1) := by decide +kernel
theorem dX4_readNumbers_90 : decode cX4_readNumbers 90 = .ok (.getfield 15, 3) := by decide +kernel
theorem dX4_readNumbers_93 : decode cX4_readNumbers 93 = .ok (.getfield 79, 3) := by decide +kernel
theorem dX4_readNumbers_96 : decode cX4_readNumbers 96 = .ok (.iastore, 1) := by decide +kernel
theorem dX4_readNumbers_97 : decode cX4_readNumbers 97 = .ok (.iinc 4 1, 3) := by decide +kernel
theorem dX4_readNumbers_100 : decode cX4_readNumbers 100 = .ok (.goto (-91), 3) := by decide +kernel
theorem dX4_readNumbers_103 : decode cX4_readNumbers 103 = .ok (.iconst 1, 1) := by decide +kernel
theorem dX4_readNumbers_104 : decode cX4_readNumbers 104 = .ok (.ireturn, 1) := by decide +kernel
theorem dX4_readOutcome_0 : decode cX4_readOutcome 0 = .ok (.aload_n 0, 1) := by decide +kernel
theorem dX4_readOutcome_1 : decode cX4_readOutcome 1 = .ok (.getfield 15, 3) := by decide +kernel
theorem dX4_readOutcome_4 : decode cX4_readOutcome 4 = .ok (.invokevirtual 28, 3) := by decide +kernel
theorem dX4_readOutcome_7 : decode cX4_readOutcome 7 = .ok (.aload_n 0, 1) := by decide +kernel
theorem dX4_readOutcome_8 : decode cX4_readOutcome 8 = .ok (.aload_n 0, 1) := by decide +kernel
theorem dX4_readOutcome_9 : decode cX4_readOutcome 9 = .ok (.getfield 15, 3) := by decide +kernel
theorem dX4_readOutcome_12 : decode cX4_readOutcome 12 = .ok (.ldc 86, 2) := by decide +kernel
theorem dX4_readOutcome_14 : decode cX4_readOutcome 14 = .ok (.invokevirtual 62, 3) := by decide +kernel
theorem dX4_readOutcome_17 : decode cX4_readOutcome 17 = .ok (.putfield 88, 3) := by decide +kernel
theorem dX4_readOutcome_20 : decode cX4_readOutcome 20 = .ok (.aload_n 0, 1) := by decide +kernel
theorem dX4_readOutcome_21 : decode cX4_readOutcome 21 = .ok (.getfield 88, 3) := by decide +kernel
theorem dX4_readOutcome_24 : decode cX4_readOutcome 24 = .ok (.ifCond .ne 30, 3) := by decide +kernel
theorem dX4_readOutcome_27 : decode cX4_readOutcome 27 = .ok (.aload_n 0, 1) := by decide +kernel
theorem dX4_readOutcome_28 : decode cX4_readOutcome 28 = .ok (.getfield 15, 3) := by decide +kernel
theorem dX4_readOutcome_31 : decode cX4_readOutcome 31 = .ok (.ldc 91, 2) := by decide +kernel
theorem dX4_readOutcome_33 : decode cX4_readOutcome 33 = .ok (.invokevirtual 62, 3) := by decide +kernel
theorem dX4_readOutcome_36 : decode cX4_readOutcome 36 = .ok (.ifCond .ne 18, 3) := by decide +kernel
theorem dX4_readOutcome_39 : decode cX4_readOutcome 39 = .ok (.aload_n 0, 1) := by decide +kernel
theorem dX4_readOutcome_40 : decode cX4_readOutcome 40 = .ok (.iconst 1, 1) := by decide +kernel
theorem dX4_readOutcome_41 : decode cX4_readOutcome 41 = .ok (.aload_n 0, 1) := by decide +kernel
theorem dX4_readOutcome_42 : decode cX4_readOutcome 42 = .ok (.getfield 15, 3) := by decide +kernel
theorem dX4_readOutcome_45 : decode cX4_readOutcome 45 = .ok (.getfield 38, 3) := by decide +kernel
theorem dX4_readOutcome_48 : decode cX4_readOutcome 48 = .ok (.invokevirtual 45, 3) := by decide +kernel
theorem dX4_readOutcome_51 : decode cX4_readOutcome 51 = .ok (.ifCond .eq 7, 3) := by decide +kernel
theorem dX4_readOutcome_54 : decode cX4_readOutcome 54 = .ok (.iconst 1, 1) := by decide +kernel
theorem dX4_readOutcome_55 : decode cX4_readOutcome 55 = .ok (.goto 4, 3) := by decide +kernel
theorem dX4_readOutcome_58 : decode cX4_readOutcome 58 = .ok (.iconst 0, 1) := by decide +kernel
theorem dX4_readOutcome_59 : decode cX4_readOutcome 59 = .ok (.ireturn, 1) := by decide +kernel
theorem dX4_canBeNumber_0 : decode cX4_canBeNumber 0 = .ok (.iload_n 2, 1) := by decide +kernel
theorem dX4_canBeNumber_1 : decode cX4_canBeNumber 1 = .ok (.tableswitch 139 0 4 #[35, 41, 65, 83, 112], 35) := by decide +kernel
theorem dX4_canBeNumber_36 : decode cX4_canBeNumber 36 = .ok (.iload 4, 2) := by decide +kernel
theorem dX4_canBeNumber_38 : decode cX4_canBeNumber 38 = .ok (.invokestatic 93, 3) := by decide +kernel
theorem dX4_canBeNumber_41 : decode cX4_canBeNumber 41 = .ok (.ireturn, 1) := by decide +kernel
theorem dX4_canBeNumber_42 : decode cX4_canBeNumber 42 = .ok (.iload_n 3, 1) := by decide +kernel
theorem dX4_canBeNumber_43 : decode cX4_canBeNumber 43 = .ok (.ifCond .ne 11, 3) := by decide +kernel
theorem dX4_canBeNumber_46 : decode cX4_canBeNumber 46 = .ok (.iload 4, 2) := by decide +kernel
theorem dX4_canBeNumber_48 : decode cX4_canBeNumber 48 = .ok (.invokestatic 97, 3) := by decide +kernel
theorem dX4_canBeNumber_51 : decode cX4_canBeNumber 51 = .ok (.goto 14, 3) := by decide +kernel
theorem dX4_canBeNumber_54 : decode cX4_canBeNumber 54 = .ok (.aload_n 0, 1) := by decide +kernel
theorem dX4_canBeNumber_55 : decode cX4_canBeNumber 55 = .ok (.getfield 11, 3) := by decide +kernel
theorem dX4_canBeNumber_58 : decode cX4_canBeNumber 58 = .ok (.iconst 0, 1) := by decide +kernel
theorem dX4_canBeNumber_59 : decode cX4_canBeNumber 59 = .ok (.iaload, 1) := by decide +kernel
theorem dX4_canBeNumber_60 : decode cX4_canBeNumber 60 = .ok (.iload 4, 2) := by decide +kernel
theorem dX4_canBeNumber_62 : decode cX4_canBeNumber 62 = .ok (.invokestatic 100, 3) := by decide +kernel
theorem dX4_canBeNumber_65 : decode cX4_canBeNumber 65 = .ok (.ireturn, 1) := by decide +kernel
theorem dX4_canBeNumber_66 : decode cX4_canBeNumber 66 = .ok (.iload_n 3, 1) := by decide +kernel
theorem dX4_canBeNumber_67 : decode cX4_canBeNumber 67 = .ok (.ifCond .ne 11, 3) := by decide +kernel
theorem dX4_canBeNumber_70 : decode cX4_canBeNumber 70 = .ok (.iload 4, 2) := by decide +kernel
theorem dX4_canBeNumber_72 : decode cX4_canBeNumber 72 = .ok (.invokestatic 103, 3) := by decide +kernel
theorem dX4_canBeNumber_75 : decode cX4_canBeNumber 75 = .ok (.goto 8, 3) := by decide +kernel
theorem dX4_canBeNumber_78 : decode cX4_canBeNumber 78 = .ok (.iload 4, 2) := by decide +kernel
theorem dX4_canBeNumber_80 : decode cX4_canBeNumber 80 = .ok (.invokestatic 106, 3) := by decide +kernel
theorem dX4_canBeNumber_83 : decode cX4_canBeNumber 83 = .ok (.ireturn, 1) := by decide +kernel
theorem dX4_canBeNumber_84 : decode cX4_canBeNumber 84 = .ok (.iload_n 3, 1) := by decide +kernel
theorem dX4_canBeNumber_85 : decode cX4_canBeNumber 85 = .ok (.ifCond .ne 20, 3) := by decide +kernel
theorem dX4_canBeNumber_88 : decode cX4_canBeNumber 88 = .ok (.aload_n 1, 1) := by decide +kernel
theorem dX4_canBeNumber_89 : decode cX4_canBeNumber 89 = .ok (.iload 4, 2) := by decide +kernel
theorem dX4_canBeNumber_91 : decode cX4_canBeNumber 91 = .ok (.invokevirtual 109, 3) := by decide +kernel
theorem dX4_canBeNumber_94 : decode cX4_canBeNumber 94 = .ok (.ifnull 7, 3) := by decide +kernel
theorem dX4_canBeNumber_97 : decode cX4_canBeNumber 97 = .ok (.iconst 1, 1) := by decide +kernel
theorem dX4_canBeNumber_98 : decode cX4_canBeNumber 98 = .ok (.goto 14, 3) := by decide +kernel
theorem dX4_canBeNumber_101 : decode cX4_canBeNumber 101 = .ok (.iconst 0, 1) := by decide +kernel
theorem dX4_canBeNumber_102 : decode cX4_canBeNumber 102 = .ok (.goto 10, 3) := by decide +kernel
theorem dX4_canBeNumber_105 : decode cX4_canBeNumber 105 = .ok (.aload_n 0, 1) := by decide +kernel
theorem dX4_canBeNumber_106 : decode cX4_canBeNumber 106 = .ok (.iload_n 3, 1) := by decide +kernel
theorem dX4_canBeNumber_107 : decode cX4_canBeNumber 107 = .ok (.iload 4, 2) := by decide +kernel
theorem dX4_canBeNumber_109 : decode cX4_canBeNumber 109 = .ok (.invokevirtual 115, 3) := by decide +kernel
theorem dX4_canBeNumber_112 : decode cX4_canBeNumber 112 = .ok (.ireturn, 1) := by decide +kernel
theorem dX4_canBeNumber_113 : decode cX4_canBeNumber 113 = .ok (.iload_n 3, 1) := by decide +kernel
theorem dX4_canBeNumber_114 : decode cX4_canBeNumber 114 = .ok (.ifCond .ne 20, 3) := by decide +kernel
theorem dX4_canBeNumber_117 : decode cX4_canBeNumber 117 = .ok (.aload_n 1, 1) := by decide +kernel
theorem dX4_canBeNumber_118 : decode cX4_canBeNumber 118 = .ok (.iload 4, 2) := by decide +kernel
theorem dX4_canBeNumber_120 : decode cX4_canBeNumber 120 = .ok (.invokevirtual 109, 3) := by decide +kernel
theorem dX4_canBeNumber_123 : decode cX4_canBeNumber 123 = .ok (.ifnull 7, 3) := by decide +kernel
theorem dX4_canBeNumber_126 : decode cX4_canBeNumber 126 = .ok (.iconst 1, 1) := by decide +kernel
theorem dX4_canBeNumber_127 : decode cX4_canBeNumber 127 = .ok (.goto 12, 3) := by decide +kernel
theorem dX4_canBeNumber_130 : decode cX4_canBeNumber 130 = .ok (.iconst 0, 1) := by decide +kernel
theorem dX4_canBeNumber_131 : decode cX4_canBeNumber 131 = .ok (.goto 8, 3) := by decide +kernel
theorem dX4_canBeNumber_134 : decode cX4_canBeNumber 134 = .ok (.iload 4, 2) := by decide +kernel
theorem dX4_canBeNumber_136 : decode cX4_canBeNumber 136 = .ok (.invokestatic 118, 3) := by decide +kernel
theorem dX4_canBeNumber_139 : decode cX4_canBeNumber 139 = .ok (.ireturn, 1) := by decide +kernel
theorem dX4_canBeNumber_140 : decode cX4_canBeNumber 140 = .ok (.iload_n 3, 1) := by decide +kernel
theorem dX4_canBeNumber_141 : decode cX4_canBeNumber 141 = .ok (.ifCond .ne 20, 3) := by decide +kernel
theorem dX4_canBeNumber_144 : decode cX4_canBeNumber 144 = .ok (.aload_n 1, 1) := by decide +kernel
theorem dX4_canBeNumber_145 : decode cX4_canBeNumber 145 = .ok (.iload 4, 2) := by decide +kernel
theorem dX4_canBeNumber_147 : decode cX4_canBeNumber 147 = .ok (.invokevirtual 109, 3) := by decide +kernel
theorem dX4_canBeNumber_150 : decode cX4_canBeNumber 150 = .ok (.ifnull 7, 3) := by decide +kernel
theorem dX4_canBeNumber_153 : decode cX4_canBeNumber 153 = .ok (.iconst 1, 1) := by decide +kernel
theorem dX4_canBeNumber_154 : decode cX4_canBeNumber 154 = .ok (.goto 14, 3) := by decide +kernel
theorem dX4_canBeNumber_157 : decode cX4_canBeNumber 157 = .ok (.iconst 0, 1) := by decide +kernel
theorem dX4_canBeNumber_158 : decode cX4_canBeNumber 158 = .ok (.goto 10, 3) := by decide +kernel
theorem dX4_canBeNumber_161 : decode cX4_canBeNumber 161 = .ok (.aload_n 0, 1) := by decide +kernel
theorem dX4_canBeNumber_162 : decode cX4_canBeNumber 162 = .ok (.aload_n 1, 1) := by decide +kernel
theorem dX4_canBeNumber_163 : decode cX4_canBeNumber 163 = .ok (.iload 4, 2) := by decide +kernel
theorem dX4_canBeNumber_165 : decode cX4_canBeNumber 165 = .ok (.invokevirtual 121, 3) := by decide +kernel
theorem dX4_canBeNumber_168 : decode cX4_canBeNumber 168 = .ok (.ireturn, 1) := by decide +kernel
theorem dX4_canBeOfFiling_0 : decode cX4_canBeOfFiling 0 = .ok (.iload_n 1, 1) := by decide +kernel
theorem dX4_canBeOfFiling_1 : decode cX4_canBeOfFiling 1 = .ok (.tableswitch 48 1 3 #[27, 32, 43], 27) := by decide +kernel
theorem dX4_canBeOfFiling_28 : decode cX4_canBeOfFiling 28 = .ok (.iload_n 2, 1) := by decide +kernel
theorem dX4_canBeOfFiling_29 : decode cX4_canBeOfFiling 29 = .ok (.invokestatic 124, 3) := by decide +kernel
theorem dX4_canBeOfFiling_32 : decode cX4_canBeOfFiling 32 = .ok (.ireturn, 1) := by decide +kernel
theorem dX4_canBeOfFiling_33 : decode cX4_canBeOfFiling 33 = .ok (.aload_n 0, 1) := by decide +kernel
theorem dX4_canBeOfFiling_34 : decode cX4_canBeOfFiling 34 = .ok (.getfield 11, 3) := by decide +kernel
theorem dX4_canBeOfFiling_37 : decode cX4_canBeOfFiling 37 = .ok (.iconst 1, 1) := by decide +kernel
theorem dX4_canBeOfFiling_38 : decode cX4_canBeOfFiling 38 = .ok (.iaload, 1) := by decide +kernel
theorem dX4_canBeOfFiling_39 : decode cX4_canBeOfFiling 39 = .ok (.iload_n 2, 1) := by decide +kernel
theorem dX4_canBeOfFiling_40 : decode cX4_canBeOfFiling 40 = .ok (.invokestatic 127, 3) := by decide +kernel
theorem dX4_canBeOfFiling_43 : decode cX4_canBeOfFiling 43 = .ok (.ireturn, 1) := by decide +kernel
theorem dX4_canBeOfFiling_44 : decode cX4_canBeOfFiling 44 = .ok (.iload_n 2, 1) := by decide +kernel
theorem dX4_canBeOfFiling_45 : decode cX4_canBeOfFiling 45 = .ok (.invokestatic 130, 3) := by decide +kernel
theorem dX4_canBeOfFiling_48 : decode cX4_canBeOfFiling 48 = .ok (.ireturn, 1) := by decide +kernel
theorem dX4_canBeOfFiling_49 : decode cX4_canBeOfFiling 49 = .ok (.iload_n 2, 1) := by decide +kernel
theorem dX4_canBeOfFiling_50 : decode cX4_canBeOfFiling 50 = .ok (.invokestatic 118, 3) := by decide +kernel
theorem dX4_canBeOfFiling_53 : decode cX4_canBeOfFiling 53 = .ok (.ireturn, 1) := by decide +kernel
theorem dX4_isFailure_0 : decode cX4_isFailure 0 = .ok (.aload_n 1, 1) := by decide +kernel
theorem dX4_isFailure_1 : decode cX4_isFailure 1 = .ok (.aload_n 0, 1) := by decide +kernel
theorem dX4_isFailure_2 : decode cX4_isFailure 2 = .ok (.getfield 11, 3) := by decide +kernel
theorem dX4_isFailure_5 : decode cX4_isFailure 5 = .ok (.iconst 0, 1) := by decide +kernel
theorem dX4_isFailure_6 : decode cX4_isFailure 6 = .ok (.iaload, 1) := by decide +kernel
theorem dX4_isFailure_7 : decode cX4_isFailure 7 = .ok (.invokevirtual 109, 3) := by decide +kernel
theorem dX4_isFailure_10 : decode cX4_isFailure 10 = .ok (.astore_n 3, 1) := by decide +kernel
theorem dX4_isFailure_11 : decode cX4_isFailure 11 = .ok (.aload_n 3, 1) := by decide +kernel
theorem dX4_isFailure_12 : decode cX4_isFailure 12 = .ok (.ifnull 15, 3) := by decide +kernel
theorem dX4_isFailure_15 : decode cX4_isFailure 15 = .ok (.aload_n 3, 1) := by decide +kernel
theorem dX4_isFailure_16 : decode cX4_isFailure 16 = .ok (.iload_n 2, 1) := by decide +kernel
theorem dX4_isFailure_17 : decode cX4_isFailure 17 = .ok (.invokevirtual 133, 3) := by decide +kernel
theorem dX4_isFailure_20 : decode cX4_isFailure 20 = .ok (.ifCond .eq 7, 3) := by decide +kernel
theorem dX4_isFailure_23 : decode cX4_isFailure 23 = .ok (.iconst 1, 1) := by decide +kernel
theorem dX4_isFailure_24 : decode cX4_isFailure 24 = .ok (.goto 4, 3) := by decide +kernel
theorem dX4_isFailure_27 : decode cX4_isFailure 27 = .ok (.iconst 0, 1) := by decide +kernel
theorem dX4_isFailure_28 : decode cX4_isFailure 28 = .ok (.ireturn, 1) := by decide +kernel
theorem dX4_doForm_0 : decode cX4_doForm 0 = .ok (.iload_n 2, 1) := by decide +kernel
theorem dX4_doForm_1 : decode cX4_doForm 1 = .ok (.tableswitch 173 0 4 #[35, 54, 73, 99, 143], 35) := by decide +kernel
theorem dX4_doForm_36 : decode cX4_doForm 36 = .ok (.aload_n 1, 1) := by decide +kernel
theorem dX4_doForm_37 : decode cX4_doForm 37 = .ok (.aload_n 0, 1) := by decide +kernel
theorem dX4_doForm_38 : decode cX4_doForm 38 = .ok (.getfield 11, 3) := by decide +kernel
theorem dX4_doForm_41 : decode cX4_doForm 41 = .ok (.iconst 0, 1) := by decide +kernel
theorem dX4_doForm_42 : decode cX4_doForm 42 = .ok (.iaload, 1) := by decide +kernel
theorem dX4_doForm_43 : decode cX4_doForm 43 = .ok (.invokevirtual 138, 3) := by decide +kernel
theorem dX4_doForm_46 : decode cX4_doForm 46 = .ok (.ifCond .lt 7, 3) := by decide +kernel
theorem dX4_doForm_49 : decode cX4_doForm 49 = .ok (.iconst 1, 1) := by decide +kernel
theorem dX4_doForm_50 : decode cX4_doForm 50 = .ok (.goto 4, 3) := by decide +kernel
theorem dX4_doForm_53 : decode cX4_doForm 53 = .ok (.iconst 0, 1) := by decide +kernel
theorem dX4_doForm_54 : decode cX4_doForm 54 = .ok (.ireturn, 1) := by decide +kernel
theorem dX4_doForm_55 : decode cX4_doForm 55 = .ok (.aload_n 1, 1) := by decide +kernel
theorem dX4_doForm_56 : decode cX4_doForm 56 = .ok (.aload_n 0, 1) := by decide +kernel
theorem dX4_doForm_57 : decode cX4_doForm 57 = .ok (.getfield 11, 3) := by decide +kernel
theorem dX4_doForm_60 : decode cX4_doForm 60 = .ok (.iconst 0, 1) := by decide +kernel
theorem dX4_doForm_61 : decode cX4_doForm 61 = .ok (.iaload, 1) := by decide +kernel
theorem dX4_doForm_62 : decode cX4_doForm 62 = .ok (.aload_n 0, 1) := by decide +kernel
theorem dX4_doForm_63 : decode cX4_doForm 63 = .ok (.getfield 11, 3) := by decide +kernel
theorem dX4_doForm_66 : decode cX4_doForm 66 = .ok (.iconst 1, 1) := by decide +kernel
theorem dX4_doForm_67 : decode cX4_doForm 67 = .ok (.iaload, 1) := by decide +kernel
theorem dX4_doForm_68 : decode cX4_doForm 68 = .ok (.invokevirtual 142, 3) := by decide +kernel
theorem dX4_doForm_71 : decode cX4_doForm 71 = .ok (.pop, 1) := by decide +kernel
theorem dX4_doForm_72 : decode cX4_doForm 72 = .ok (.iconst 1, 1) := by decide +kernel
theorem dX4_doForm_73 : decode cX4_doForm 73 = .ok (.ireturn, 1) := by decide +kernel
theorem dX4_doForm_74 : decode cX4_doForm 74 = .ok (.aload_n 1, 1) := by decide +kernel
theorem dX4_doForm_75 : decode cX4_doForm 75 = .ok (.aload_n 0, 1) := by decide +kernel
theorem dX4_doForm_76 : decode cX4_doForm 76 = .ok (.getfield 11, 3) := by decide +kernel
theorem dX4_doForm_79 : decode cX4_doForm 79 = .ok (.iconst 0, 1) := by decide +kernel
theorem dX4_doForm_80 : decode cX4_doForm 80 = .ok (.iaload, 1) := by decide +kernel
theorem dX4_doForm_81 : decode cX4_doForm 81 = .ok (.aload_n 0, 1) := by decide +kernel
theorem dX4_doForm_82 : decode cX4_doForm 82 = .ok (.getfield 11, 3) := by decide +kernel
theorem dX4_doForm_85 : decode cX4_doForm 85 = .ok (.iconst 1, 1) := by decide +kernel
theorem dX4_doForm_86 : decode cX4_doForm 86 = .ok (.iaload, 1) := by decide +kernel
theorem dX4_doForm_87 : decode cX4_doForm 87 = .ok (.invokevirtual 145, 3) := by decide +kernel
theorem dX4_doForm_90 : decode cX4_doForm 90 = .ok (.iconst (-1), 1) := by decide +kernel
theorem dX4_doForm_91 : decode cX4_doForm 91 = .ok (.if_icmp .eq 7, 3) := by decide +kernel
theorem dX4_doForm_94 : decode cX4_doForm 94 = .ok (.iconst 1, 1) := by decide +kernel
theorem dX4_doForm_95 : decode cX4_doForm 95 = .ok (.goto 4, 3) := by decide +kernel
theorem dX4_doForm_98 : decode cX4_doForm 98 = .ok (.iconst 0, 1) := by decide +kernel
theorem dX4_doForm_99 : decode cX4_doForm 99 = .ok (.ireturn, 1) := by decide +kernel
theorem dX4_doForm_100 : decode cX4_doForm 100 = .ok (.aload_n 1, 1) := by decide +kernel
theorem dX4_doForm_101 : decode cX4_doForm 101 = .ok (.aload_n 0, 1) := by decide +kernel
theorem dX4_doForm_102 : decode cX4_doForm 102 = .ok (.getfield 11, 3) := by decide +kernel
theorem dX4_doForm_105 : decode cX4_doForm 105 = .ok (.iconst 0, 1) := by decide +kernel
theorem dX4_doForm_106 : decode cX4_doForm 106 = .ok (.iaload, 1) := by decide +kernel
theorem dX4_doForm_107 : decode cX4_doForm 107 = .ok (.aload_n 0, 1) := by decide +kernel
theorem dX4_doForm_108 : decode cX4_doForm 108 = .ok (.getfield 11, 3) := by decide +kernel
theorem dX4_doForm_111 : decode cX4_doForm 111 = .ok (.iconst 1, 1) := by decide +kernel
theorem dX4_doForm_112 : decode cX4_doForm 112 = .ok (.iaload, 1) := by decide +kernel
theorem dX4_doForm_113 : decode cX4_doForm 113 = .ok (.aload_n 0, 1) := by decide +kernel
theorem dX4_doForm_114 : decode cX4_doForm 114 = .ok (.getfield 11, 3) := by decide +kernel
theorem dX4_doForm_117 : decode cX4_doForm 117 = .ok (.iconst 2, 1) := by decide +kernel
theorem dX4_doForm_118 : decode cX4_doForm 118 = .ok (.iaload, 1) := by decide +kernel
theorem dX4_doForm_119 : decode cX4_doForm 119 = .ok (.aload_n 0, 1) := by decide +kernel
theorem dX4_doForm_120 : decode cX4_doForm 120 = .ok (.getfield 11, 3) := by decide +kernel
theorem dX4_doForm_123 : decode cX4_doForm 123 = .ok (.iconst 3, 1) := by decide +kernel
theorem dX4_doForm_124 : decode cX4_doForm 124 = .ok (.iaload, 1) := by decide +kernel
theorem dX4_doForm_125 : decode cX4_doForm 125 = .ok (.aload_n 0, 1) := by decide +kernel
theorem dX4_doForm_126 : decode cX4_doForm 126 = .ok (.getfield 11, 3) := by decide +kernel
theorem dX4_doForm_129 : decode cX4_doForm 129 = .ok (.iconst 4, 1) := by decide +kernel
theorem dX4_doForm_130 : decode cX4_doForm 130 = .ok (.iaload, 1) := by decide +kernel
theorem dX4_doForm_131 : decode cX4_doForm 131 = .ok (.invokevirtual 149, 3) := by decide +kernel
theorem dX4_doForm_134 : decode cX4_doForm 134 = .ok (.iconst (-1), 1) := by decide +kernel
theorem dX4_doForm_135 : decode cX4_doForm 135 = .ok (.if_icmp .eq 7, 3) := by decide +kernel
theorem dX4_doForm_138 : decode cX4_doForm 138 = .ok (.iconst 1, 1) := by decide +kernel
theorem dX4_doForm_139 : decode cX4_doForm 139 = .ok (.goto 4, 3) := by decide +kernel
theorem dX4_doForm_142 : decode cX4_doForm 142 = .ok (.iconst 0, 1) := by decide +kernel
theorem dX4_doForm_143 : decode cX4_doForm 143 = .ok (.ireturn, 1) := by decide +kernel
theorem dX4_doForm_144 : decode cX4_doForm 144 = .ok (.aload_n 1, 1) := by decide +kernel
theorem dX4_doForm_145 : decode cX4_doForm 145 = .ok (.aload_n 0, 1) := by decide +kernel
theorem dX4_doForm_146 : decode cX4_doForm 146 = .ok (.getfield 11, 3) := by decide +kernel
theorem dX4_doForm_149 : decode cX4_doForm 149 = .ok (.iconst 0, 1) := by decide +kernel
theorem dX4_doForm_150 : decode cX4_doForm 150 = .ok (.iaload, 1) := by decide +kernel
theorem dX4_doForm_151 : decode cX4_doForm 151 = .ok (.aload_n 0, 1) := by decide +kernel
theorem dX4_doForm_152 : decode cX4_doForm 152 = .ok (.getfield 11, 3) := by decide +kernel
theorem dX4_doForm_155 : decode cX4_doForm 155 = .ok (.iconst 1, 1) := by decide +kernel
theorem dX4_doForm_156 : decode cX4_doForm 156 = .ok (.iaload, 1) := by decide +kernel
theorem dX4_doForm_157 : decode cX4_doForm 157 = .ok (.aload_n 0, 1) := by decide +kernel
theorem dX4_doForm_158 : decode cX4_doForm 158 = .ok (.getfield 88, 3) := by decide +kernel
theorem dX4_doForm_161 : decode cX4_doForm 161 = .ok (.invokevirtual 153, 3) := by decide +kernel
theorem dX4_doForm_164 : decode cX4_doForm 164 = .ok (.iconst (-1), 1) := by decide +kernel
theorem dX4_doForm_165 : decode cX4_doForm 165 = .ok (.if_icmp .eq 7, 3) := by decide +kernel
theorem dX4_doForm_168 : decode cX4_doForm 168 = .ok (.iconst 1, 1) := by decide +kernel
theorem dX4_doForm_169 : decode cX4_doForm 169 = .ok (.goto 4, 3) := by decide +kernel
theorem dX4_doForm_172 : decode cX4_doForm 172 = .ok (.iconst 0, 1) := by decide +kernel
theorem dX4_doForm_173 : decode cX4_doForm 173 = .ok (.ireturn, 1) := by decide +kernel
theorem dX4_doForm_174 : decode cX4_doForm 174 = .ok (.aload_n 1, 1) := by decide +kernel
theorem dX4_doForm_175 : decode cX4_doForm 175 = .ok (.aload_n 0, 1) := by decide +kernel
theorem dX4_doForm_176 : decode cX4_doForm 176 = .ok (.getfield 11, 3) := by decide +kernel
theorem dX4_doForm_179 : decode cX4_doForm 179 = .ok (.iconst 0, 1) := by decide +kernel
theorem dX4_doForm_180 : decode cX4_doForm 180 = .ok (.iaload, 1) := by decide +kernel
theorem dX4_doForm_181 : decode cX4_doForm 181 = .ok (.aload_n 0, 1) := by decide +kernel
theorem dX4_doForm_182 : decode cX4_doForm 182 = .ok (.getfield 11, 3) := by decide +kernel
theorem dX4_doForm_185 : decode cX4_doForm 185 = .ok (.iconst 1, 1) := by decide +kernel
theorem dX4_doForm_186 : decode cX4_doForm 186 = .ok (.iaload, 1) := by decide +kernel
theorem dX4_doForm_187 : decode cX4_doForm 187 = .ok (.invokevirtual 157, 3) := by decide +kernel
theorem dX4_doForm_190 : decode cX4_doForm 190 = .ok (.ireturn, 1) := by decide +kernel
theorem dX5_init_0 : decode cX5_init 0 = .ok (.aload_n 0, 1) := by decide +kernel
theorem dX5_init_1 : decode cX5_init 1 = .ok (.invokespecial 1, 3) := by decide +kernel
theorem dX5_init_4 : decode cX5_init 4 = .ok (.aload_n 0, 1) := by decide +kernel

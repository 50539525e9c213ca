theorem dX6_strikes_50 : decode cX6_strikes 50 = .ok (.if_icmp .le 5, 3) := by decide +kernel
theorem dX6_strikes_53 : decode cX6_strikes 53 = .ok (.iconst 0, 1) := by decide +kernel
theorem dX6_strikes_54 : decode cX6_strikes 54 = .ok (.ireturn, 1) := by decide +kernel
theorem dX6_strikes_55 : decode cX6_strikes 55 = .ok (.aload_n 0, 1) := by decide +kernel
theorem dX6_strikes_56 : decode cX6_strikes 56 = .ok (.getfield 7, 3) := by decide +kernel
theorem dX6_strikes_59 : decode cX6_strikes 59 = .ok (.iload_n 1, 1) := by decide +kernel
theorem dX6_strikes_60 : decode cX6_strikes 60 = .ok (.bipush 8, 2) := by decide +kernel
theorem dX6_strikes_62 : decode cX6_strikes 62 = .ok (.iconst 3, 1) := by decide +kernel
theorem dX6_strikes_63 : decode cX6_strikes 63 = .ok (.iload_n 2, 1) := by decide +kernel
theorem dX6_strikes_64 : decode cX6_strikes 64 = .ok (.imul, 1) := by decide +kernel
theorem dX6_strikes_65 : decode cX6_strikes 65 = .ok (.iadd, 1) := by decide +kernel
theorem dX6_strikes_66 : decode cX6_strikes 66 = .ok (.iconst 2, 1) := by decide +kernel
theorem dX6_strikes_67 : decode cX6_strikes 67 = .ok (.iadd, 1) := by decide +kernel
theorem dX6_strikes_68 : decode cX6_strikes 68 = .ok (.invokestatic 46, 3) := by decide +kernel
theorem dX6_strikes_71 : decode cX6_strikes 71 = .ok (.iconst 1, 1) := by decide +kernel
theorem dX6_strikes_72 : decode cX6_strikes 72 = .ok (.iastore, 1) := by decide +kernel
theorem dX6_strikes_73 : decode cX6_strikes 73 = .ok (.iconst 1, 1) := by decide +kernel
theorem dX6_strikes_74 : decode cX6_strikes 74 = .ok (.ireturn, 1) := by decide +kernel
theorem dX6_athlete_0 : decode cX6_athlete 0 = .ok (.aload_n 0, 1) := by decide +kernel
theorem dX6_athlete_1 : decode cX6_athlete 1 = .ok (.iconst 0, 1) := by decide +kernel
theorem dX6_athlete_2 : decode cX6_athlete 2 = .ok (.putfield 38, 3) := by decide +kernel
theorem dX6_athlete_5 : decode cX6_athlete 5 = .ok (.iload_n 1, 1) := by decide +kernel
theorem dX6_athlete_6 : decode cX6_athlete 6 = .ok (.iconst 1, 1) := by decide +kernel
theorem dX6_athlete_7 : decode cX6_athlete 7 = .ok (.bipush 9, 2) := by decide +kernel
theorem dX6_athlete_9 : decode cX6_athlete 9 = .ok (.invokestatic 42, 3) := by decide +kernel
theorem dX6_athlete_12 : decode cX6_athlete 12 = .ok (.ifCond .ne 7, 3) := by decide +kernel
theorem dX6_athlete_15 : decode cX6_athlete 15 = .ok (.iconst (-1), 1) := by decide +kernel
theorem dX6_athlete_16 : decode cX6_athlete 16 = .ok (.goto 24, 3) := by decide +kernel
theorem dX6_athlete_19 : decode cX6_athlete 19 = .ok (.aload_n 0, 1) := by decide +kernel
theorem dX6_athlete_20 : decode cX6_athlete 20 = .ok (.getfield 7, 3) := by decide +kernel
theorem dX6_athlete_23 : decode cX6_athlete 23 = .ok (.iconst 2, 1) := by decide +kernel
theorem dX6_athlete_24 : decode cX6_athlete 24 = .ok (.iaload, 1) := by decide +kernel
theorem dX6_athlete_25 : decode cX6_athlete 25 = .ok (.bipush 6, 2) := by decide +kernel
theorem dX6_athlete_27 : decode cX6_athlete 27 = .ok (.if_icmp .ne 8, 3) := by decide +kernel
theorem dX6_athlete_30 : decode cX6_athlete 30 = .ok (.bipush (-2), 2) := by decide +kernel
theorem dX6_athlete_32 : decode cX6_athlete 32 = .ok (.goto 8, 3) := by decide +kernel
theorem dX6_athlete_35 : decode cX6_athlete 35 = .ok (.aload_n 0, 1) := by decide +kernel
theorem dX6_athlete_36 : decode cX6_athlete 36 = .ok (.iload_n 1, 1) := by decide +kernel
theorem dX6_athlete_37 : decode cX6_athlete 37 = .ok (.invokevirtual 77, 3) := by decide +kernel
theorem dX6_athlete_40 : decode cX6_athlete 40 = .ok (.ireturn, 1) := by decide +kernel
theorem dX6_set_0 : decode cX6_set 0 = .ok (.aload_n 0, 1) := by decide +kernel
theorem dX6_set_1 : decode cX6_set 1 = .ok (.iconst 0, 1) := by decide +kernel
theorem dX6_set_2 : decode cX6_set 2 = .ok (.putfield 38, 3) := by decide +kernel
theorem dX6_set_5 : decode cX6_set 5 = .ok (.iload_n 1, 1) := by decide +kernel
theorem dX6_set_6 : decode cX6_set 6 = .ok (.iconst 0, 1) := by decide +kernel
theorem dX6_set_7 : decode cX6_set 7 = .ok (.iconst 5, 1) := by decide +kernel
theorem dX6_set_8 : decode cX6_set 8 = .ok (.invokestatic 42, 3) := by decide +kernel
theorem dX6_set_11 : decode cX6_set 11 = .ok (.ifCond .eq 34, 3) := by decide +kernel
theorem dX6_set_14 : decode cX6_set 14 = .ok (.iload_n 2, 1) := by decide +kernel
theorem dX6_set_15 : decode cX6_set 15 = .ok (.aload_n 0, 1) := by decide +kernel
theorem dX6_set_16 : decode cX6_set 16 = .ok (.getfield 16, 3) := by decide +kernel
theorem dX6_set_19 : decode cX6_set 19 = .ok (.iload_n 1, 1) := by decide +kernel
theorem dX6_set_20 : decode cX6_set 20 = .ok (.iaload, 1) := by decide +kernel
theorem dX6_set_21 : decode cX6_set 21 = .ok (.aload_n 0, 1) := by decide +kernel
theorem dX6_set_22 : decode cX6_set 22 = .ok (.getfield 19, 3) := by decide +kernel
theorem dX6_set_25 : decode cX6_set 25 = .ok (.iload_n 1, 1) := by decide +kernel
theorem dX6_set_26 : decode cX6_set 26 = .ok (.iaload, 1) := by decide +kernel
theorem dX6_set_27 : decode cX6_set 27 = .ok (.invokestatic 42, 3) := by decide +kernel
theorem dX6_set_30 : decode cX6_set 30 = .ok (.ifCond .eq 15, 3) := by decide +kernel
theorem dX6_set_33 : decode cX6_set 33 = .ok (.aload_n 0, 1) := by decide +kernel
theorem dX6_set_34 : decode cX6_set 34 = .ok (.getfield 7, 3) := by decide +kernel
theorem dX6_set_37 : decode cX6_set 37 = .ok (.iconst 3, 1) := by decide +kernel
theorem dX6_set_38 : decode cX6_set 38 = .ok (.iload_n 1, 1) := by decide +kernel
theorem dX6_set_39 : decode cX6_set 39 = .ok (.iadd, 1) := by decide +kernel
theorem dX6_set_40 : decode cX6_set 40 = .ok (.iaload, 1) := by decide +kernel
theorem dX6_set_41 : decode cX6_set 41 = .ok (.iload_n 2, 1) := by decide +kernel
theorem dX6_set_42 : decode cX6_set 42 = .ok (.if_icmp .ne 5, 3) := by decide +kernel
theorem dX6_set_45 : decode cX6_set 45 = .ok (.iconst 0, 1) := by decide +kernel
theorem dX6_set_46 : decode cX6_set 46 = .ok (.ireturn, 1) := by decide +kernel
theorem dX6_set_47 : decode cX6_set 47 = .ok (.aload_n 0, 1) := by decide +kernel
theorem dX6_set_48 : decode cX6_set 48 = .ok (.getfield 7, 3) := by decide +kernel
theorem dX6_set_51 : decode cX6_set 51 = .ok (.iconst 3, 1) := by decide +kernel
theorem dX6_set_52 : decode cX6_set 52 = .ok (.iload_n 1, 1) := by decide +kernel
theorem dX6_set_53 : decode cX6_set 53 = .ok (.iadd, 1) := by decide +kernel
theorem dX6_set_54 : decode cX6_set 54 = .ok (.iload_n 2, 1) := by decide +kernel
theorem dX6_set_55 : decode cX6_set 55 = .ok (.iastore, 1) := by decide +kernel
theorem dX6_set_56 : decode cX6_set 56 = .ok (.iconst 1, 1) := by decide +kernel
theorem dX6_set_57 : decode cX6_set 57 = .ok (.ireturn, 1) := by decide +kernel
theorem dX6_at_0 : decode cX6_at 0 = .ok (.aload_n 0, 1) := by decide +kernel
theorem dX6_at_1 : decode cX6_at 1 = .ok (.iconst 0, 1) := by decide +kernel
theorem dX6_at_2 : decode cX6_at 2 = .ok (.putfield 38, 3) := by decide +kernel
theorem dX6_at_5 : decode cX6_at 5 = .ok (.iload_n 1, 1) := by decide +kernel
theorem dX6_at_6 : decode cX6_at 6 = .ok (.iconst 0, 1) := by decide +kernel
theorem dX6_at_7 : decode cX6_at 7 = .ok (.sipush 999, 3) := by decide +kernel
theorem dX6_at_10 : decode cX6_at 10 = .ok (.invokestatic 42, 3) := by decide +kernel
theorem dX6_at_13 : decode cX6_at 13 = .ok (.ifCond .eq 31, 3) := by decide +kernel
theorem dX6_at_16 : decode cX6_at 16 = .ok (.iload_n 2, 1) := by decide +kernel
theorem dX6_at_17 : decode cX6_at 17 = .ok (.iconst 0, 1) := by decide +kernel
theorem dX6_at_18 : decode cX6_at 18 = .ok (.bipush 23, 2) := by decide +kernel
theorem dX6_at_20 : decode cX6_at 20 = .ok (.invokestatic 42, 3) := by decide +kernel
theorem dX6_at_23 : decode cX6_at 23 = .ok (.ifCond .eq 21, 3) := by decide +kernel
theorem dX6_at_26 : decode cX6_at 26 = .ok (.aload_n 0, 1) := by decide +kernel
theorem dX6_at_27 : decode cX6_at 27 = .ok (.iload_n 1, 1) := by decide +kernel
theorem dX6_at_28 : decode cX6_at 28 = .ok (.iload_n 2, 1) := by decide +kernel
theorem dX6_at_29 : decode cX6_at 29 = .ok (.invokevirtual 81, 3) := by decide +kernel
theorem dX6_at_32 : decode cX6_at 32 = .ok (.ifCond .eq 12, 3) := by decide +kernel
theorem dX6_at_35 : decode cX6_at 35 = .ok (.aload_n 0, 1) := by decide +kernel
theorem dX6_at_36 : decode cX6_at 36 = .ok (.iload_n 1, 1) := by decide +kernel
theorem dX6_at_37 : decode cX6_at 37 = .ok (.iload_n 2, 1) := by decide +kernel
theorem dX6_at_38 : decode cX6_at 38 = .ok (.invokevirtual 84, 3) := by decide +kernel
theorem dX6_at_41 : decode cX6_at 41 = .ok (.goto 4, 3) := by decide +kernel
theorem dX6_at_44 : decode cX6_at 44 = .ok (.iconst (-1), 1) := by decide +kernel
theorem dX6_at_45 : decode cX6_at 45 = .ok (.ireturn, 1) := by decide +kernel
theorem dX6_canFile_0 : decode cX6_canFile 0 = .ok (.iload_n 0, 1) := by decide +kernel
theorem dX6_canFile_1 : decode cX6_canFile 1 = .ok (.ifCond .lt 47, 3) := by decide +kernel
theorem dX6_canFile_4 : decode cX6_canFile 4 = .ok (.iload_n 1, 1) := by decide +kernel
theorem dX6_canFile_5 : decode cX6_canFile 5 = .ok (.sipush 1100, 3) := by decide +kernel
theorem dX6_canFile_8 : decode cX6_canFile 8 = .ok (.if_icmp .ge 40, 3) := by decide +kernel
theorem dX6_canFile_11 : decode cX6_canFile 11 = .ok (.iload_n 1, 1) := by decide +kernel
theorem dX6_canFile_12 : decode cX6_canFile 12 = .ok (.iload_n 0, 1) := by decide +kernel
theorem dX6_canFile_13 : decode cX6_canFile 13 = .ok (.if_icmp .lt 35, 3) := by decide +kernel
theorem dX6_canFile_16 : decode cX6_canFile 16 = .ok (.iload_n 1, 1) := by decide +kernel
theorem dX6_canFile_17 : decode cX6_canFile 17 = .ok (.iload_n 0, 1) := by decide +kernel
theorem dX6_canFile_18 : decode cX6_canFile 18 = .ok (.isub, 1) := by decide +kernel
theorem dX6_canFile_19 : decode cX6_canFile 19 = .ok (.bipush 60, 2) := by decide +kernel
theorem dX6_canFile_21 : decode cX6_canFile 21 = .ok (.if_icmp .ge 27, 3) := by decide +kernel
theorem dX6_canFile_24 : decode cX6_canFile 24 = .ok (.iload_n 2, 1) := by decide +kernel
theorem dX6_canFile_25 : decode cX6_canFile 25 = .ok (.iconst 5, 1) := by decide +kernel
theorem dX6_canFile_26 : decode cX6_canFile 26 = .ok (.bipush 22, 2) := by decide +kernel
theorem dX6_canFile_28 : decode cX6_canFile 28 = .ok (.invokestatic 42, 3) := by decide +kernel
theorem dX6_canFile_31 : decode cX6_canFile 31 = .ok (.ifCond .eq 17, 3) := by decide +kernel
theorem dX6_canFile_34 : decode cX6_canFile 34 = .ok (.iload_n 3, 1) := by decide +kernel
theorem dX6_canFile_35 : decode cX6_canFile 35 = .ok (.iconst 0, 1) := by decide +kernel
theorem dX6_canFile_36 : decode cX6_canFile 36 = .ok (.bipush 9, 2) := by decide +kernel
theorem dX6_canFile_38 : decode cX6_canFile 38 = .ok (.invokestatic 42, 3) := by decide +kernel
theorem dX6_canFile_41 : decode cX6_canFile 41 = .ok (.ifCond .eq 7, 3) := by decide +kernel
theorem dX6_canFile_44 : decode cX6_canFile 44 = .ok (.iconst 1, 1) := by decide +kernel
theorem dX6_canFile_45 : decode cX6_canFile 45 = .ok (.goto 4, 3) := by decide +kernel
theorem dX6_canFile_48 : decode cX6_canFile 48 = .ok (.iconst 0, 1) := by decide +kernel
theorem dX6_canFile_49 : decode cX6_canFile 49 = .ok (.ireturn, 1) := by decide +kernel
theorem dX6_file_0 : decode cX6_file 0 = .ok (.aload_n 0, 1) := by decide +kernel
theorem dX6_file_1 : decode cX6_file 1 = .ok (.iconst 0, 1) := by decide +kernel
theorem dX6_file_2 : decode cX6_file 2 = .ok (.putfield 38, 3) := by decide +kernel
theorem dX6_file_5 : decode cX6_file 5 = .ok (.aload_n 0, 1) := by decide +kernel
theorem dX6_file_6 : decode cX6_file 6 = .ok (.iload_n 1, 1) := by decide +kernel
theorem dX6_file_7 : decode cX6_file 7 = .ok (.invokevirtual 73, 3) := by decide +kernel
theorem dX6_file_10 : decode cX6_file 10 = .ok (.ifCond .eq 40, 3) := by decide +kernel
theorem dX6_file_13 : decode cX6_file 13 = .ok (.iload_n 2, 1) := by decide +kernel
theorem dX6_file_14 : decode cX6_file 14 = .ok (.iload_n 3, 1) := by decide +kernel
theorem dX6_file_15 : decode cX6_file 15 = .ok (.iload 4, 2) := by decide +kernel
theorem dX6_file_17 : decode cX6_file 17 = .ok (.iload 5, 2) := by decide +kernel
theorem dX6_file_19 : decode cX6_file 19 = .ok (.invokestatic 87, 3) := by decide +kernel
theorem dX6_file_22 : decode cX6_file 22 = .ok (.ifCond .eq 28, 3) := by decide +kernel
theorem dX6_file_25 : decode cX6_file 25 = .ok (.aload_n 0, 1) := by decide +kernel
theorem dX6_file_26 : decode cX6_file 26 = .ok (.iload_n 1, 1) := by decide +kernel
theorem dX6_file_27 : decode cX6_file 27 = .ok (.iload_n 2, 1) := by decide +kernel
theorem dX6_file_28 : decode cX6_file 28 = .ok (.iload 4, 2) := by decide +kernel
theorem dX6_file_30 : decode cX6_file 30 = .ok (.invokevirtual 91, 3) := by decide +kernel
theorem dX6_file_33 : decode cX6_file 33 = .ok (.ifCond .eq 17, 3) := by decide +kernel
theorem dX6_file_36 : decode cX6_file 36 = .ok (.aload_n 0, 1) := by decide +kernel
theorem dX6_file_37 : decode cX6_file 37 = .ok (.iload_n 1, 1) := by decide +kernel
theorem dX6_file_38 : decode cX6_file 38 = .ok (.iload_n 2, 1) := by decide +kernel
theorem dX6_file_39 : decode cX6_file 39 = .ok (.iload_n 3, 1) := by decide +kernel
theorem dX6_file_40 : decode cX6_file 40 = .ok (.iload 4, 2) := by decide +kernel
theorem dX6_file_42 : decode cX6_file 42 = .ok (.iload 5, 2) := by decide +kernel
theorem dX6_file_44 : decode cX6_file 44 = .ok (.invokevirtual 94, 3) := by decide +kernel
theorem dX6_file_47 : decode cX6_file 47 = .ok (.goto 4, 3) := by decide +kernel
theorem dX6_file_50 : decode cX6_file 50 = .ok (.iconst (-1), 1) := by decide +kernel
theorem dX6_file_51 : decode cX6_file 51 = .ok (.ireturn, 1) := by decide +kernel
theorem dX6_test_0 : decode cX6_test 0 = .ok (.aload_n 0, 1) := by decide +kernel
theorem dX6_test_1 : decode cX6_test 1 = .ok (.iconst 0, 1) := by decide +kernel
theorem dX6_test_2 : decode cX6_test 2 = .ok (.putfield 38, 3) := by decide +kernel
theorem dX6_test_5 : decode cX6_test 5 = .ok (.aload_n 0, 1) := by decide +kernel
theorem dX6_test_6 : decode cX6_test 6 = .ok (.iload_n 1, 1) := by decide +kernel
theorem dX6_test_7 : decode cX6_test 7 = .ok (.invokevirtual 73, 3) := by decide +kernel
theorem dX6_test_10 : decode cX6_test 10 = .ok (.ifCond .eq 23, 3) := by decide +kernel
theorem dX6_test_13 : decode cX6_test 13 = .ok (.iload_n 2, 1) := by decide +kernel
theorem dX6_test_14 : decode cX6_test 14 = .ok (.iconst 0, 1) := by decide +kernel
theorem dX6_test_15 : decode cX6_test 15 = .ok (.bipush 9, 2) := by decide +kernel
theorem dX6_test_17 : decode cX6_test 17 = .ok (.invokestatic 42, 3) := by decide +kernel
theorem dX6_test_20 : decode cX6_test 20 = .ok (.ifCond .eq 13, 3) := by decide +kernel
theorem dX6_test_23 : decode cX6_test 23 = .ok (.aload_n 0, 1) := by decide +kernel
theorem dX6_test_24 : decode cX6_test 24 = .ok (.iload_n 1, 1) := by decide +kernel
theorem dX6_test_25 : decode cX6_test 25 = .ok (.iload_n 2, 1) := by decide +kernel
theorem dX6_test_26 : decode cX6_test 26 = .ok (.iload_n 3, 1) := by decide +kernel
theorem dX6_test_27 : decode cX6_test 27 = .ok (.invokevirtual 98, 3) := by decide +kernel
theorem dX6_test_30 : decode cX6_test 30 = .ok (.goto 4, 3) := by decide +kernel
theorem dX6_test_33 : decode cX6_test 33 = .ok (.iconst (-1), 1) := by decide +kernel
theorem dX6_test_34 : decode cX6_test 34 = .ok (.ireturn, 1) := by decide +kernel
theorem dX6_appeal_0 : decode cX6_appeal 0 = .ok (.aload_n 0, 1) := by decide +kernel
theorem dX6_appeal_1 : decode cX6_appeal 1 = .ok (.iconst 0, 1) := by decide +kernel
theorem dX6_appeal_2 : decode cX6_appeal 2 = .ok (.putfield 38, 3) := by decide +kernel
theorem dX6_appeal_5 : decode cX6_appeal 5 = .ok (.aload_n 0, 1) := by decide +kernel
theorem dX6_appeal_6 : decode cX6_appeal 6 = .ok (.iload_n 1, 1) := by decide +kernel
theorem dX6_appeal_7 : decode cX6_appeal 7 = .ok (.iload_n 2, 1) := by decide +kernel
theorem dX6_appeal_8 : decode cX6_appeal 8 = .ok (.invokevirtual 102, 3) := by decide +kernel
theorem dX6_appeal_11 : decode cX6_appeal 11 = .ok (.ifCond .eq 16, 3) := by decide +kernel
theorem dX6_appeal_14 : decode cX6_appeal 14 = .ok (.aload_n 0, 1) := by decide +kernel
theorem dX6_appeal_15 : decode cX6_appeal 15 = .ok (.iload_n 1, 1) := by decide +kernel
theorem dX6_appeal_16 : decode cX6_appeal 16 = .ok (.iload_n 2, 1) := by decide +kernel
theorem dX6_appeal_17 : decode cX6_appeal 17 = .ok (.invokevirtual 105, 3) := by decide +kernel
theorem dX6_appeal_20 : decode cX6_appeal 20 = .ok (.ifCond .eq 7, 3) := by decide +kernel
theorem dX6_appeal_23 : decode cX6_appeal 23 = .ok (.iconst 1, 1) := by decide +kernel
theorem dX6_appeal_24 : decode cX6_appeal 24 = .ok (.goto 4, 3) := by decide +kernel
theorem dX6_appeal_27 : decode cX6_appeal 27 = .ok (.iconst 0, 1) := by decide +kernel
theorem dX6_appeal_28 : decode cX6_appeal 28 = .ok (.ireturn, 1) := by decide +kernel
theorem dX6_four_0 : decode cX6_four 0 = .ok (.bipush 24, 2) := by decide +kernel
theorem dX6_four_2 : decode cX6_four 2 = .ok (.istore_n 2, 1) := by decide +kernel
theorem dX6_four_3 : decode cX6_four 3 = .ok (.iload_n 2, 1) := by decide +kernel
theorem dX6_four_4 : decode cX6_four 4 = .ok (.ifCond .lt 35, 3) := by decide +kernel
theorem dX6_four_7 : decode cX6_four 7 = .ok (.aload_n 0, 1) := by decide +kernel
theorem dX6_four_8 : decode cX6_four 8 = .ok (.getfield 22, 3) := by decide +kernel
theorem dX6_four_11 : decode cX6_four 11 = .ok (.aload_n 0, 1) := by decide +kernel
theorem dX6_four_12 : decode cX6_four 12 = .ok (.getfield 108, 3) := by decide +kernel
theorem dX6_four_15 : decode cX6_four 15 = .ok (.iload_n 1, 1) := by decide +kernel
theorem dX6_four_16 : decode cX6_four 16 = .ok (.iload_n 2, 1) := by decide +kernel
theorem dX6_four_17 : decode cX6_four 17 = .ok (.ishr, 1) := by decide +kernel
theorem dX6_four_18 : decode cX6_four 18 = .ok (.sipush 255, 3) := by decide +kernel
theorem dX6_four_21 : decode cX6_four 21 = .ok (.iand, 1) := by decide +kernel
theorem dX6_four_22 : decode cX6_four 22 = .ok (.iastore, 1) := by decide +kernel
theorem dX6_four_23 : decode cX6_four 23 = .ok (.aload_n 0, 1) := by decide +kernel
theorem dX6_four_24 : decode cX6_four 24 = .ok (.dup, 1) := by decide +kernel
theorem dX6_four_25 : decode cX6_four 25 = .ok (.getfield 108, 3) := by decide +kernel
theorem dX6_four_28 : decode cX6_four 28 = .ok (.iconst 1, 1) := by decide +kernel
theorem dX6_four_29 : decode cX6_four 29 = .ok (.iadd, 1) := by decide +kernel
theorem dX6_four_30 : decode cX6_four 30 = .ok (.putfield 108, 3) := by decide +kernel
theorem dX6_four_33 : decode cX6_four 33 = .ok (.iinc 2 (-8), 3) := by decide +kernel
theorem dX6_four_36 : decode cX6_four 36 = .ok (.goto (-33), 3) := by decide +kernel
theorem dX6_four_39 : decode cX6_four 39 = .ok (.return_, 1) := by decide +kernel
theorem dX6_feed_0 : decode cX6_feed 0 = .ok (.aload_n 0, 1) := by decide +kernel
theorem dX6_feed_1 : decode cX6_feed 1 = .ok (.iconst 0, 1) := by decide +kernel
theorem dX6_feed_2 : decode cX6_feed 2 = .ok (.putfield 38, 3) := by decide +kernel
theorem dX6_feed_5 : decode cX6_feed 5 = .ok (.aload_n 0, 1) := by decide +kernel
theorem dX6_feed_6 : decode cX6_feed 6 = .ok (.getfield 108, 3) := by decide +kernel
theorem dX6_feed_9 : decode cX6_feed 9 = .ok (.bipush 20, 2) := by decide +kernel
theorem dX6_feed_11 : decode cX6_feed 11 = .ok (.iadd, 1) := by decide +kernel
theorem dX6_feed_12 : decode cX6_feed 12 = .ok (.sipush 400, 3) := by decide +kernel
theorem dX6_feed_15 : decode cX6_feed 15 = .ok (.if_icmp .le 5, 3) := by decide +kernel
theorem dX6_feed_18 : decode cX6_feed 18 = .ok (.iconst (-1), 1) := by decide +kernel
theorem dX6_feed_19 : decode cX6_feed 19 = .ok (.ireturn, 1) := by decide +kernel
theorem dX6_feed_20 : decode cX6_feed 20 = .ok (.aload_n 0, 1) := by decide +kernel
theorem dX6_feed_21 : decode cX6_feed 21 = .ok (.iload_n 1, 1) := by decide +kernel
theorem dX6_feed_22 : decode cX6_feed 22 = .ok (.invokevirtual 111, 3) := by decide +kernel
theorem dX6_feed_25 : decode cX6_feed 25 = .ok (.aload_n 0, 1) := by decide +kernel
theorem dX6_feed_26 : decode cX6_feed 26 = .ok (.iload_n 2, 1) := by decide +kernel
theorem dX6_feed_27 : decode cX6_feed 27 = .ok (.invokevirtual 111, 3) := by decide +kernel
theorem dX6_feed_30 : decode cX6_feed 30 = .ok (.aload_n 0, 1) := by decide +kernel
theorem dX6_feed_31 : decode cX6_feed 31 = .ok (.iload_n 3, 1) := by decide +kernel
theorem dX6_feed_32 : decode cX6_feed 32 = .ok (.invokevirtual 111, 3) := by decide +kernel
theorem dX6_feed_35 : decode cX6_feed 35 = .ok (.aload_n 0, 1) := by decide +kernel
theorem dX6_feed_36 : decode cX6_feed 36 = .ok (.iload 4, 2) := by decide +kernel
theorem dX6_feed_38 : decode cX6_feed 38 = .ok (.invokevirtual 111, 3) := by decide +kernel
theorem dX6_feed_41 : decode cX6_feed 41 = .ok (.aload_n 0, 1) := by decide +kernel
theorem dX6_feed_42 : decode cX6_feed 42 = .ok (.iload 5, 2) := by decide +kernel
theorem dX6_feed_44 : decode cX6_feed 44 = .ok (.invokevirtual 111, 3) := by decide +kernel
theorem dX6_feed_47 : decode cX6_feed 47 = .ok (.aload_n 0, 1) := by decide +kernel
theorem dX6_feed_48 : decode cX6_feed 48 = .ok (.getfield 108, 3) := by decide +kernel
theorem dX6_feed_51 : decode cX6_feed 51 = .ok (.ireturn, 1) := by decide +kernel
theorem dX6_end_0 : decode cX6_end 0 = .ok (.aload_n 0, 1) := by decide +kernel
theorem dX6_end_1 : decode cX6_end 1 = .ok (.iconst 0, 1) := by decide +kernel
theorem dX6_end_2 : decode cX6_end 2 = .ok (.putfield 38, 3) := by decide +kernel
theorem dX6_end_5 : decode cX6_end 5 = .ok (.iload_n 1, 1) := by decide +kernel
theorem dX6_end_6 : decode cX6_end 6 = .ok (.iconst 0, 1) := by decide +kernel
theorem dX6_end_7 : decode cX6_end 7 = .ok (.aload_n 0, 1) := by decide +kernel
theorem dX6_end_8 : decode cX6_end 8 = .ok (.getfield 108, 3) := by decide +kernel
theorem dX6_end_11 : decode cX6_end 11 = .ok (.invokestatic 42, 3) := by decide +kernel
theorem dX6_end_14 : decode cX6_end 14 = .ok (.ifCond .ne 5, 3) := by decide +kernel
theorem dX6_end_17 : decode cX6_end 17 = .ok (.iconst 0, 1) := by decide +kernel
theorem dX6_end_18 : decode cX6_end 18 = .ok (.ireturn, 1) := by decide +kernel
theorem dX6_end_19 : decode cX6_end 19 = .ok (.aload_n 0, 1) := by decide +kernel
theorem dX6_end_20 : decode cX6_end 20 = .ok (.iload_n 1, 1) := by decide +kernel
theorem dX6_end_21 : decode cX6_end 21 = .ok (.putfield 108, 3) := by decide +kernel
theorem dX6_end_24 : decode cX6_end 24 = .ok (.iconst 1, 1) := by decide +kernel
theorem dX6_end_25 : decode cX6_end 25 = .ok (.ireturn, 1) := by decide +kernel
theorem dX6_here_0 : decode cX6_here 0 = .ok (.aload_n 0, 1) := by decide +kernel
theorem dX6_here_1 : decode cX6_here 1 = .ok (.getfield 114, 3) := by decide +kernel
theorem dX6_here_4 : decode cX6_here 4 = .ok (.aload_n 0, 1) := by decide +kernel
theorem dX6_here_5 : decode cX6_here 5 = .ok (.getfield 108, 3) := by decide +kernel
theorem dX6_here_8 : decode cX6_here 8 = .ok (.if_icmp .ge 44, 3) := by decide +kernel
theorem dX6_here_11 : decode cX6_here 11 = .ok (.aload_n 0, 1) := by decide +kernel
theorem dX6_here_12 : decode cX6_here 12 = .ok (.getfield 22, 3) := by decide +kernel
theorem dX6_here_15 : decode cX6_here 15 = .ok (.aload_n 0, 1) := by decide +kernel
theorem dX6_here_16 : decode cX6_here 16 = .ok (.getfield 114, 3) := by decide +kernel
theorem dX6_here_19 : decode cX6_here 19 = .ok (.iaload, 1) := by decide +kernel
theorem dX6_here_20 : decode cX6_here 20 = .ok (.bipush 32, 2) := by decide +kernel
theorem dX6_here_22 : decode cX6_here 22 = .ok (.if_icmp .eq 17, 3) := by decide +kernel
theorem dX6_here_25 : decode cX6_here 25 = .ok (.aload_n 0, 1) := by decide +kernel
theorem dX6_here_26 : decode cX6_here 26 = .ok (.getfield 22, 3) := by decide +kernel
theorem dX6_here_29 : decode cX6_here 29 = .ok (.aload_n 0, 1) := by decide +kernel
theorem dX6_here_30 : decode cX6_here 30 = .ok (.getfield 114, 3) := by decide +kernel
theorem dX6_here_33 : decode cX6_here 33 = .ok (.iaload, 1) := by decide +kernel
theorem dX6_here_34 : decode cX6_here 34 = .ok (.bipush 10, 2) := by decide +kernel
theorem dX6_here_36 : decode cX6_here 36 = .ok (.if_icmp .ne 16, 3) := by decide +kernel
theorem dX6_here_39 : decode cX6_here 39 = .ok (.aload_n 0, 1) := by decide +kernel
theorem dX6_here_40 : decode cX6_here 40 = .ok (.dup, 1) := by decide +kernel
theorem dX6_here_41 : decode cX6_here 41 = .ok (.getfield 114, 3) := by decide +kernel
theorem dX6_here_44 : decode cX6_here 44 = .ok (.iconst 1, 1) := by decide +kernel
theorem dX6_here_45 : decode cX6_here 45 = .ok (.iadd, 1) := by decide +kernel
theorem dX6_here_46 : decode cX6_here 46 = .ok (.putfield 114, 3) := by decide +kernel
theorem dX6_here_49 : decode cX6_here 49 = .ok (.goto (-49), 3) := by decide +kernel
theorem dX6_here_52 : decode cX6_here 52 = .ok (.aload_n 0, 1) := by decide +kernel
theorem dX6_here_53 : decode cX6_here 53 = .ok (.getfield 114, 3) := by decide +kernel
theorem dX6_here_56 : decode cX6_here 56 = .ok (.aload_n 0, 1) := by decide +kernel
theorem dX6_here_57 : decode cX6_here 57 = .ok (.getfield 108, 3) := by decide +kernel
theorem dX6_here_60 : decode cX6_here 60 = .ok (.if_icmp .ge 15, 3) := by decide +kernel
theorem dX6_here_63 : decode cX6_here 63 = .ok (.aload_n 0, 1) := by decide +kernel
theorem dX6_here_64 : decode cX6_here 64 = .ok (.getfield 22, 3) := by decide +kernel
theorem dX6_here_67 : decode cX6_here 67 = .ok (.aload_n 0, 1) := by decide +kernel
theorem dX6_here_68 : decode cX6_here 68 = .ok (.getfield 114, 3) := by decide +kernel
theorem dX6_here_71 : decode cX6_here 71 = .ok (.iaload, 1) := by decide +kernel
theorem dX6_here_72 : decode cX6_here 72 = .ok (.goto 4, 3) := by decide +kernel
theorem dX6_here_75 : decode cX6_here 75 = .ok (.iconst (-1), 1) := by decide +kernel
theorem dX6_here_76 : decode cX6_here 76 = .ok (.ireturn, 1) := by decide +kernel
theorem dX6_wrong_0 : decode cX6_wrong 0 = .ok (.aload_n 0, 1) := by decide +kernel
theorem dX6_wrong_1 : decode cX6_wrong 1 = .ok (.iload_n 1, 1) := by decide +kernel
theorem dX6_wrong_2 : decode cX6_wrong 2 = .ok (.bipush 8, 2) := by decide +kernel
theorem dX6_wrong_4 : decode cX6_wrong 4 = .ok (.iload_n 2, 1) := by decide +kernel
theorem dX6_wrong_5 : decode cX6_wrong 5 = .ok (.imul, 1) := by decide +kernel
theorem dX6_wrong_6 : decode cX6_wrong 6 = .ok (.iadd, 1) := by decide +kernel
theorem dX6_wrong_7 : decode cX6_wrong 7 = .ok (.putfield 117, 3) := by decide +kernel
theorem dX6_wrong_10 : decode cX6_wrong 10 = .ok (.iconst 0, 1) := by decide +kernel
theorem dX6_wrong_11 : decode cX6_wrong 11 = .ok (.ireturn, 1) := by decide +kernel
theorem dX6_readWord_0 : decode cX6_readWord 0 = .ok (.lconst 0, 1) := by decide +kernel
theorem dX6_readWord_1 : decode cX6_readWord 1 = .ok (.lstore_n 1, 1) := by decide +kernel
theorem dX6_readWord_2 : decode cX6_readWord 2 = .ok (.iconst 0, 1) := by decide +kernel
theorem dX6_readWord_3 : decode cX6_readWord 3 = .ok (.istore_n 3, 1) := by decide +kernel
theorem dX6_readWord_4 : decode cX6_readWord 4 = .ok (.aload_n 0, 1) := by decide +kernel
theorem dX6_readWord_5 : decode cX6_readWord 5 = .ok (.aload_n 0, 1) := by decide +kernel
theorem dX6_readWord_6 : decode cX6_readWord 6 = .ok (.getfield 114, 3) := by decide +kernel
theorem dX6_readWord_9 : decode cX6_readWord 9 = .ok (.putfield 120, 3) := by decide +kernel
theorem dX6_readWord_12 : decode cX6_readWord 12 = .ok (.aload_n 0, 1) := by decide +kernel
theorem dX6_readWord_13 : decode cX6_readWord 13 = .ok (.getfield 114, 3) := by decide +kernel
theorem dX6_readWord_16 : decode cX6_readWord 16 = .ok (.aload_n 0, 1) := by decide +kernel
theorem dX6_readWord_17 : decode cX6_readWord 17 = .ok (.getfield 108, 3) := by decide +kernel
theorem dX6_readWord_20 : decode cX6_readWord 20 = .ok (.if_icmp .ge 71, 3) := by decide +kernel
theorem dX6_readWord_23 : decode cX6_readWord 23 = .ok (.aload_n 0, 1) := by decide +kernel
theorem dX6_readWord_24 : decode cX6_readWord 24 = .ok (.getfield 22, 3) := by decide +kernel
theorem dX6_readWord_27 : decode cX6_readWord 27 = .ok (.aload_n 0, 1) := by decide +kernel
theorem dX6_readWord_28 : decode cX6_readWord 28 = .ok (.getfield 114, 3) := by decide +kernel
theorem dX6_readWord_31 : decode cX6_readWord 31 = .ok (.iaload, 1) := by decide +kernel
theorem dX6_readWord_32 : decode cX6_readWord 32 = .ok (.bipush 97, 2) := by decide +kernel
theorem dX6_readWord_34 : decode cX6_readWord 34 = .ok (.bipush 122, 2) := by decide +kernel
theorem dX6_readWord_36 : decode cX6_readWord 36 = .ok (.invokestatic 42, 3) := by decide +kernel
theorem dX6_readWord_39 : decode cX6_readWord 39 = .ok (.ifCond .eq 52, 3) := by decide +kernel
theorem dX6_readWord_42 : decode cX6_readWord 42 = .ok (.iload_n 3, 1) := by decide +kernel
theorem dX6_readWord_43 : decode cX6_readWord 43 = .ok (.bipush 7, 2) := by decide +kernel
theorem dX6_readWord_45 : decode cX6_readWord 45 = .ok (.if_icmp .ge 26, 3) := by decide +kernel
theorem dX6_readWord_48 : decode cX6_readWord 48 = .ok (.lload_n 1, 1) := by decide +kernel
theorem dX6_readWord_49 : decode cX6_readWord 49 = .ok (.ldc2_w 123, 3) := by decide +kernel
theorem dX6_readWord_52 : decode cX6_readWord 52 = .ok (.lmul, 1) := by decide +kernel
theorem dX6_readWord_53 : decode cX6_readWord 53 = .ok (.aload_n 0, 1) := by decide +kernel
theorem dX6_readWord_54 : decode cX6_readWord 54 = .ok (.getfield 22, 3) := by decide +kernel
theorem dX6_readWord_57 : decode cX6_readWord 57 = .ok (.aload_n 0, 1) := by decide +kernel
theorem dX6_readWord_58 : decode cX6_readWord 58 = .ok (.getfield 114, 3) := by decide +kernel
theorem dX6_readWord_61 : decode cX6_readWord 61 = .ok (.iaload, 1) := by decide +kernel
theorem dX6_readWord_62 : decode cX6_readWord 62 = .ok (.i2l, 1) := by decide +kernel
theorem dX6_readWord_63 : decode cX6_readWord 63 = .ok (.ladd, 1) := by decide +kernel
theorem dX6_readWord_64 : decode cX6_readWord 64 = .ok (.ldc2_w 125, 3) := by decide +kernel
theorem dX6_readWord_67 : decode cX6_readWord 67 = .ok (.lsub, 1) := by decide +kernel
theorem dX6_readWord_68 : decode cX6_readWord 68 = .ok (.goto 6, 3) := by decide +kernel
theorem dX6_readWord_71 : decode cX6_readWord 71 = .ok (.ldc2_w 127, 3) := by decide +kernel
theorem dX6_readWord_74 : decode cX6_readWord 74 = .ok (.lstore_n 1, 1) := by decide +kernel
theorem dX6_readWord_75 : decode cX6_readWord 75 = .ok (.iinc 3 1, 3) := by decide +kernel
theorem dX6_readWord_78 : decode cX6_readWord 78 = .ok (.aload_n 0, 1) := by decide +kernel
theorem dX6_readWord_79 : decode cX6_readWord 79 = .ok (.dup, 1) := by decide +kernel
theorem dX6_readWord_80 : decode cX6_readWord 80 = .ok (.getfield 114, 3) := by decide +kernel
theorem dX6_readWord_83 : decode cX6_readWord 83 = .ok (.iconst 1, 1) := by decide +kernel
theorem dX6_readWord_84 : decode cX6_readWord 84 = .ok (.iadd, 1) := by decide +kernel
theorem dX6_readWord_85 : decode cX6_readWord 85 = .ok (.putfield 114, 3) := by decide +kernel
theorem dX6_readWord_88 : decode cX6_readWord 88 = .ok (.goto (-76), 3) := by decide +kernel
theorem dX6_readWord_91 : decode cX6_readWord 91 = .ok (.lload_n 1, 1) := by decide +kernel
theorem dX6_readWord_92 : decode cX6_readWord 92 = .ok (.lreturn, 1) := by decide +kernel
theorem dX6_number_0 : decode cX6_number 0 = .ok (.aload_n 0, 1) := by decide +kernel
theorem dX6_number_1 : decode cX6_number 1 = .ok (.invokevirtual 129, 3) := by decide +kernel
theorem dX6_number_4 : decode cX6_number 4 = .ok (.bipush 48, 2) := by decide +kernel
theorem dX6_number_6 : decode cX6_number 6 = .ok (.bipush 57, 2) := by decide +kernel
theorem dX6_number_8 : decode cX6_number 8 = .ok (.invokestatic 42, 3) := by decide +kernel
theorem dX6_number_11 : decode cX6_number 11 = .ok (.ifCond .ne 13, 3) := by decide +kernel
theorem dX6_number_14 : decode cX6_number 14 = .ok (.aload_n 0, 1) := by decide +kernel
theorem dX6_number_15 : decode cX6_number 15 = .ok (.iconst 1, 1) := by decide +kernel
theorem dX6_number_16 : decode cX6_number 16 = .ok (.aload_n 0, 1) := by decide +kernel
theorem dX6_number_17 : decode cX6_number 17 = .ok (.getfield 114, 3) := by decide +kernel
theorem dX6_number_20 : decode cX6_number 20 = .ok (.invokevirtual 133, 3) := by decide +kernel
theorem dX6_number_23 : decode cX6_number 23 = .ok (.ireturn, 1) := by decide +kernel
theorem dX6_number_24 : decode cX6_number 24 = .ok (.aload_n 0, 1) := by decide +kernel
theorem dX6_number_25 : decode cX6_number 25 = .ok (.getfield 114, 3) := by decide +kernel
theorem dX6_number_28 : decode cX6_number 28 = .ok (.istore 4, 2) := by decide +kernel
theorem dX6_number_30 : decode cX6_number 30 = .ok (.aload_n 0, 1) := by decide +kernel
theorem dX6_number_31 : decode cX6_number 31 = .ok (.iconst 0, 1) := by decide +kernel
theorem dX6_number_32 : decode cX6_number 32 = .ok (.putfield 135, 3) := by decide +kernel
theorem dX6_number_35 : decode cX6_number 35 = .ok (.aload_n 0, 1) := by decide +kernel
theorem dX6_number_36 : decode cX6_number 36 = .ok (.getfield 114, 3) := by decide +kernel
theorem dX6_number_39 : decode cX6_number 39 = .ok (.aload_n 0, 1) := by decide +kernel
theorem dX6_number_40 : decode cX6_number 40 = .ok (.getfield 108, 3) := by decide +kernel
theorem dX6_number_43 : decode cX6_number 43 = .ok (.if_icmp .ge 77, 3) := by decide +kernel
theorem dX6_number_46 : decode cX6_number 46 = .ok (.aload_n 0, 1) := by decide +kernel
theorem dX6_number_47 : decode cX6_number 47 = .ok (.getfield 22, 3) := by decide +kernel
theorem dX6_number_50 : decode cX6_number 50 = .ok (.aload_n 0, 1) := by decide +kernel
theorem dX6_number_51 : decode cX6_number 51 = .ok (.getfield 114, 3) := by decide +kernel
theorem dX6_number_54 : decode cX6_number 54 = .ok (.iaload, 1) := by decide +kernel
theorem dX6_number_55 : decode cX6_number 55 = .ok (.bipush 48, 2) := by decide +kernel
theorem dX6_number_57 : decode cX6_number 57 = .ok (.bipush 57, 2) := by decide +kernel
theorem dX6_number_59 : decode cX6_number 59 = .ok (.invokestatic 42, 3) := by decide +kernel
theorem dX6_number_62 : decode cX6_number 62 = .ok (.ifCond .eq 58, 3) := by decide +kernel
theorem dX6_number_65 : decode cX6_number 65 = .ok (.aload_n 0, 1) := by decide +kernel
theorem dX6_number_66 : decode cX6_number 66 = .ok (.aload_n 0, 1) := by decide +kernel
theorem dX6_number_67 : decode cX6_number 67 = .ok (.getfield 114, 3) := by decide +kernel
theorem dX6_number_70 : decode cX6_number 70 = .ok (.iload 4, 2) := by decide +kernel
theorem dX6_number_72 : decode cX6_number 72 = .ok (.isub, 1) := by decide +kernel
theorem dX6_number_73 : decode cX6_number 73 = .ok (.iconst 4, 1) := by decide +kernel
theorem dX6_number_74 : decode cX6_number 74 = .ok (.if_icmp .ge 26, 3) := by decide +kernel
theorem dX6_number_77 : decode cX6_number 77 = .ok (.bipush 10, 2) := by decide +kernel
theorem dX6_number_79 : decode cX6_number 79 = .ok (.aload_n 0, 1) := by decide +kernel
theorem dX6_number_80 : decode cX6_number 80 = .ok (.getfield 135, 3) := by decide +kernel
theorem dX6_number_83 : decode cX6_number 83 = .ok (.imul, 1) := by decide +kernel
theorem dX6_number_84 : decode cX6_number 84 = .ok (.aload_n 0, 1) := by decide +kernel
theorem dX6_number_85 : decode cX6_number 85 = .ok (.getfield 22, 3) := by decide +kernel
theorem dX6_number_88 : decode cX6_number 88 = .ok (.aload_n 0, 1) := by decide +kernel
theorem dX6_number_89 : decode cX6_number 89 = .ok (.getfield 114, 3) := by decide +kernel
theorem dX6_number_92 : decode cX6_number 92 = .ok (.iaload, 1) := by decide +kernel
theorem dX6_number_93 : decode cX6_number 93 = .ok (.iadd, 1) := by decide +kernel
theorem dX6_number_94 : decode cX6_number 94 = .ok (.bipush 48, 2) := by decide +kernel
theorem dX6_number_96 : decode cX6_number 96 = .ok (.isub, 1) := by decide +kernel
theorem dX6_number_97 : decode cX6_number 97 = .ok (.goto 7, 3) := by decide +kernel
theorem dX6_number_100 : decode cX6_number 100 = .ok (.aload_n 0, 1) := by decide +kernel
theorem dX6_number_101 : decode cX6_number 101 = .ok (.getfield 135, 3) := by decide +kernel
theorem dX6_number_104 : decode cX6_number 104 = .ok (.putfield 135, 3) := by decide +kernel
theorem dX6_number_107 : decode cX6_number 107 = .ok (.aload_n 0, 1) := by decide +kernel
theorem dX6_number_108 : decode cX6_number 108 = .ok (.dup, 1) := by decide +kernel
theorem dX6_number_109 : decode cX6_number 109 = .ok (.getfield 114, 3) := by decide +kernel
theorem dX6_number_112 : decode cX6_number 112 = .ok (.iconst 1, 1) := by decide +kernel
theorem dX6_number_113 : decode cX6_number 113 = .ok (.iadd, 1) := by decide +kernel
theorem dX6_number_114 : decode cX6_number 114 = .ok (.putfield 114, 3) := by decide +kernel
theorem dX6_number_117 : decode cX6_number 117 = .ok (.goto (-82), 3) := by decide +kernel
theorem dX6_number_120 : decode cX6_number 120 = .ok (.aload_n 0, 1) := by decide +kernel
theorem dX6_number_121 : decode cX6_number 121 = .ok (.getfield 114, 3) := by decide +kernel
theorem dX6_number_124 : decode cX6_number 124 = .ok (.iload 4, 2) := by decide +kernel
theorem dX6_number_126 : decode cX6_number 126 = .ok (.isub, 1) := by decide +kernel
theorem dX6_number_127 : decode cX6_number 127 = .ok (.iconst 4, 1) := by decide +kernel
theorem dX6_number_128 : decode cX6_number 128 = .ok (.if_icmp .le 11, 3) := by decide +kernel
theorem dX6_number_131 : decode cX6_number 131 = .ok (.aload_n 0, 1) := by decide +kernel
theorem dX6_number_132 : decode cX6_number 132 = .ok (.iconst 1, 1) := by decide +kernel
theorem dX6_number_133 : decode cX6_number 133 = .ok (.iload 4, 2) := by decide +kernel
theorem dX6_number_135 : decode cX6_number 135 = .ok (.invokevirtual 133, 3) := by decide +kernel
theorem dX6_number_138 : decode cX6_number 138 = .ok (.ireturn, 1) := by decide +kernel
theorem dX6_number_139 : decode cX6_number 139 = .ok (.aload_n 0, 1) := by decide +kernel
theorem dX6_number_140 : decode cX6_number 140 = .ok (.getfield 25, 3) := by decide +kernel
theorem dX6_number_143 : decode cX6_number 143 = .ok (.iload_n 1, 1) := by decide +kernel
theorem dX6_number_144 : decode cX6_number 144 = .ok (.aload_n 0, 1) := by decide +kernel
theorem dX6_number_145 : decode cX6_number 145 = .ok (.getfield 135, 3) := by decide +kernel
theorem dX6_number_148 : decode cX6_number 148 = .ok (.iastore, 1) := by decide +kernel
theorem dX6_number_149 : decode cX6_number 149 = .ok (.aload_n 0, 1) := by decide +kernel
theorem dX6_number_150 : decode cX6_number 150 = .ok (.getfield 135, 3) := by decide +kernel
theorem dX6_number_153 : decode cX6_number 153 = .ok (.iload_n 2, 1) := by decide +kernel
theorem dX6_number_154 : decode cX6_number 154 = .ok (.iload_n 3, 1) := by decide +kernel
theorem dX6_number_155 : decode cX6_number 155 = .ok (.invokestatic 42, 3) := by decide +kernel
theorem dX6_number_158 : decode cX6_number 158 = .ok (.ifCond .ne 13, 3) := by decide +kernel
theorem dX6_number_161 : decode cX6_number 161 = .ok (.aload_n 0, 1) := by decide +kernel
theorem dX6_number_162 : decode cX6_number 162 = .ok (.iconst 2, 1) := by decide +kernel
theorem dX6_number_163 : decode cX6_number 163 = .ok (.iload 4, 2) := by decide +kernel
theorem dX6_number_165 : decode cX6_number 165 = .ok (.invokevirtual 133, 3) := by decide +kernel
theorem dX6_number_168 : decode cX6_number 168 = .ok (.ifCond .eq 7, 3) := by decide +kernel
theorem dX6_number_171 : decode cX6_number 171 = .ok (.iconst 1, 1) := by decide +kernel
theorem dX6_number_172 : decode cX6_number 172 = .ok (.goto 4, 3) := by decide +kernel
theorem dX6_number_175 : decode cX6_number 175 = .ok (.iconst 0, 1) := by decide +kernel
theorem dX6_number_176 : decode cX6_number 176 = .ok (.ireturn, 1) := by decide +kernel
theorem dX6_who_0 : decode cX6_who 0 = .ok (.aload_n 0, 1) := by decide +kernel
theorem dX6_who_1 : decode cX6_who 1 = .ok (.iconst 0, 1) := by decide +kernel
theorem dX6_who_2 : decode cX6_who 2 = .ok (.iconst 0, 1) := by decide +kernel
theorem dX6_who_3 : decode cX6_who 3 = .ok (.aload_n 0, 1) := by decide +kernel
theorem dX6_who_4 : decode cX6_who 4 = .ok (.getfield 7, 3) := by decide +kernel
theorem dX6_who_7 : decode cX6_who 7 = .ok (.iconst 2, 1) := by decide +kernel
theorem dX6_who_8 : decode cX6_who 8 = .ok (.iaload, 1) := by decide +kernel
theorem dX6_who_9 : decode cX6_who 9 = .ok (.iconst 1, 1) := by decide +kernel
theorem dX6_who_10 : decode cX6_who 10 = .ok (.isub, 1) := by decide +kernel
theorem dX6_who_11 : decode cX6_who 11 = .ok (.invokevirtual 138, 3) := by decide +kernel
theorem dX6_who_14 : decode cX6_who 14 = .ok (.ireturn, 1) := by decide +kernel
theorem dX6_readFile_0 : decode cX6_readFile 0 = .ok (.aload_n 0, 1) := by decide +kernel
theorem dX6_readFile_1 : decode cX6_readFile 1 = .ok (.invokevirtual 141, 3) := by decide +kernel
theorem dX6_readFile_4 : decode cX6_readFile 4 = .ok (.ifCond .eq 89, 3) := by decide +kernel
theorem dX6_readFile_7 : decode cX6_readFile 7 = .ok (.aload_n 0, 1) := by decide +kernel
theorem dX6_readFile_8 : decode cX6_readFile 8 = .ok (.iconst 1, 1) := by decide +kernel
theorem dX6_readFile_9 : decode cX6_readFile 9 = .ok (.iconst 0, 1) := by decide +kernel
theorem dX6_readFile_10 : decode cX6_readFile 10 = .ok (.sipush 1099, 3) := by decide +kernel
theorem dX6_readFile_13 : decode cX6_readFile 13 = .ok (.invokevirtual 138, 3) := by decide +kernel
theorem dX6_readFile_16 : decode cX6_readFile 16 = .ok (.ifCond .eq 77, 3) := by decide +kernel
theorem dX6_readFile_19 : decode cX6_readFile 19 = .ok (.aload_n 0, 1) := by decide +kernel
theorem dX6_readFile_20 : decode cX6_readFile 20 = .ok (.iconst 2, 1) := by decide +kernel
theorem dX6_readFile_21 : decode cX6_readFile 21 = .ok (.aload_n 0, 1) := by decide +kernel
theorem dX6_readFile_22 : decode cX6_readFile 22 = .ok (.getfield 25, 3) := by decide +kernel
theorem dX6_readFile_25 : decode cX6_readFile 25 = .ok (.iconst 1, 1) := by decide +kernel
theorem dX6_readFile_26 : decode cX6_readFile 26 = .ok (.iaload, 1) := by decide +kernel
theorem dX6_readFile_27 : decode cX6_readFile 27 = .ok (.aload_n 0, 1) := by decide +kernel
theorem dX6_readFile_28 : decode cX6_readFile 28 = .ok (.getfield 25, 3) := by decide +kernel
theorem dX6_readFile_31 : decode cX6_readFile 31 = .ok (.iconst 1, 1) := by decide +kernel
theorem dX6_readFile_32 : decode cX6_readFile 32 = .ok (.iaload, 1) := by decide +kernel
theorem dX6_readFile_33 : decode cX6_readFile 33 = .ok (.bipush 60, 2) := by decide +kernel
theorem dX6_readFile_35 : decode cX6_readFile 35 = .ok (.iadd, 1) := by decide +kernel
theorem dX6_readFile_36 : decode cX6_readFile 36 = .ok (.iconst 1, 1) := by decide +kernel
theorem dX6_readFile_37 : decode cX6_readFile 37 = .ok (.isub, 1) := by decide +kernel
theorem dX6_readFile_38 : decode cX6_readFile 38 = .ok (.sipush 1099, 3) := by decide +kernel
theorem dX6_readFile_41 : decode cX6_readFile 41 = .ok (.if_icmp .ge 17, 3) := by decide +kernel
theorem dX6_readFile_44 : decode cX6_readFile 44 = .ok (.aload_n 0, 1) := by decide +kernel
theorem dX6_readFile_45 : decode cX6_readFile 45 = .ok (.getfield 25, 3) := by decide +kernel
theorem dX6_readFile_48 : decode cX6_readFile 48 = .ok (.iconst 1, 1) := by decide +kernel
theorem dX6_readFile_49 : decode cX6_readFile 49 = .ok (.iaload, 1) := by decide +kernel
theorem dX6_readFile_50 : decode cX6_readFile 50 = .ok (.bipush 60, 2) := by decide +kernel
theorem dX6_readFile_52 : decode cX6_readFile 52 = .ok (.iadd, 1) := by decide +kernel
theorem dX6_readFile_53 : decode cX6_readFile 53 = .ok (.iconst 1, 1) := by decide +kernel
theorem dX6_readFile_54 : decode cX6_readFile 54 = .ok (.isub, 1) := by decide +kernel
theorem dX6_readFile_55 : decode cX6_readFile 55 = .ok (.goto 6, 3) := by decide +kernel
theorem dX6_readFile_58 : decode cX6_readFile 58 = .ok (.sipush 1099, 3) := by decide +kernel
theorem dX6_readFile_61 : decode cX6_readFile 61 = .ok (.invokevirtual 138, 3) := by decide +kernel
theorem dX6_readFile_64 : decode cX6_readFile 64 = .ok (.ifCond .eq 29, 3) := by decide +kernel
theorem dX6_readFile_67 : decode cX6_readFile 67 = .ok (.aload_n 0, 1) := by decide +kernel
theorem dX6_readFile_68 : decode cX6_readFile 68 = .ok (.iconst 3, 1) := by decide +kernel
theorem dX6_readFile_69 : decode cX6_readFile 69 = .ok (.iconst 5, 1) := by decide +kernel
theorem dX6_readFile_70 : decode cX6_readFile 70 = .ok (.bipush 22, 2) := by decide +kernel
theorem dX6_readFile_72 : decode cX6_readFile 72 = .ok (.invokevirtual 138, 3) := by decide +kernel
theorem dX6_readFile_75 : decode cX6_readFile 75 = .ok (.ifCond .eq 18, 3) := by decide +kernel
theorem dX6_readFile_78 : decode cX6_readFile 78 = .ok (.aload_n 0, 1) := by decide +kernel
theorem dX6_readFile_79 : decode cX6_readFile 79 = .ok (.iconst 4, 1) := by decide +kernel
theorem dX6_readFile_80 : decode cX6_readFile 80 = .ok (.iconst 0, 1) := by decide +kernel
theorem dX6_readFile_81 : decode cX6_readFile 81 = .ok (.bipush 9, 2) := by decide +kernel
theorem dX6_readFile_83 : decode cX6_readFile 83 = .ok (.invokevirtual 138, 3) := by decide +kernel
theorem dX6_readFile_86 : decode cX6_readFile 86 = .ok (.ifCond .eq 7, 3) := by decide +kernel
theorem dX6_readFile_89 : decode cX6_readFile 89 = .ok (.iconst 1, 1) := by decide +kernel
theorem dX6_readFile_90 : decode cX6_readFile 90 = .ok (.goto 4, 3) := by decide +kernel
theorem dX6_readFile_93 : decode cX6_readFile 93 = .ok (.iconst 0, 1) := by decide +kernel
theorem dX6_readFile_94 : decode cX6_readFile 94 = .ok (.ireturn, 1) := by decide +kernel
theorem dX6_readTest_0 : decode cX6_readTest 0 = .ok (.aload_n 0, 1) := by decide +kernel
theorem dX6_readTest_1 : decode cX6_readTest 1 = .ok (.invokevirtual 141, 3) := by decide +kernel
theorem dX6_readTest_4 : decode cX6_readTest 4 = .ok (.ifCond .eq 14, 3) := by decide +kernel
theorem dX6_readTest_7 : decode cX6_readTest 7 = .ok (.aload_n 0, 1) := by decide +kernel
theorem dX6_readTest_8 : decode cX6_readTest 8 = .ok (.iconst 1, 1) := by decide +kernel
theorem dX6_readTest_9 : decode cX6_readTest 9 = .ok (.iconst 0, 1) := by decide +kernel
theorem dX6_readTest_10 : decode cX6_readTest 10 = .ok (.bipush 9, 2) := by decide +kernel
theorem dX6_readTest_12 : decode cX6_readTest 12 = .ok (.invokevirtual 138, 3) := by decide +kernel
theorem dX6_readTest_15 : decode cX6_readTest 15 = .ok (.ifCond .ne 5, 3) := by decide +kernel
theorem dX6_readTest_18 : decode cX6_readTest 18 = .ok (.iconst 0, 1) := by decide +kernel
theorem dX6_readTest_19 : decode cX6_readTest 19 = .ok (.ireturn, 1) := by decide +kernel
theorem dX6_readTest_20 : decode cX6_readTest 20 = .ok (.aload_n 0, 1) := by decide +kernel
theorem dX6_readTest_21 : decode cX6_readTest 21 = .ok (.invokevirtual 129, 3) := by decide +kernel
theorem dX6_readTest_24 : decode cX6_readTest 24 = .ok (.bipush 97, 2) := by decide +kernel
theorem dX6_readTest_26 : decode cX6_readTest 26 = .ok (.bipush 122, 2) := by decide +kernel
theorem dX6_readTest_28 : decode cX6_readTest 28 = .ok (.invokestatic 42, 3) := by decide +kernel
theorem dX6_readTest_31 : decode cX6_readTest 31 = .ok (.ifCond .ne 13, 3) := by decide +kernel
theorem dX6_readTest_34 : decode cX6_readTest 34 = .ok (.aload_n 0, 1) := by decide +kernel
theorem dX6_readTest_35 : decode cX6_readTest 35 = .ok (.iconst 1, 1) := by decide +kernel
theorem dX6_readTest_36 : decode cX6_readTest 36 = .ok (.aload_n 0, 1) := by decide +kernel
theorem dX6_readTest_37 : decode cX6_readTest 37 = .ok (.getfield 114, 3) := by decide +kernel
theorem dX6_readTest_40 : decode cX6_readTest 40 = .ok (.invokevirtual 133, 3) := by decide +kernel
theorem dX6_readTest_43 : decode cX6_readTest 43 = .ok (.ireturn, 1) := by decide +kernel
theorem dX6_readTest_44 : decode cX6_readTest 44 = .ok (.aload_n 0, 1) := by decide +kernel
theorem dX6_readTest_45 : decode cX6_readTest 45 = .ok (.invokevirtual 145, 3) := by decide +kernel
theorem dX6_readTest_48 : decode cX6_readTest 48 = .ok (.lstore_n 1, 1) := by decide +kernel
theorem dX6_readTest_49 : decode cX6_readTest 49 = .ok (.aload_n 0, 1) := by decide +kernel
theorem dX6_readTest_50 : decode cX6_readTest 50 = .ok (.getfield 25, 3) := by decide +kernel
theorem dX6_readTest_53 : decode cX6_readTest 53 = .ok (.iconst 2, 1) := by decide +kernel
theorem dX6_readTest_54 : decode cX6_readTest 54 = .ok (.lload_n 1, 1) := by decide +kernel
theorem dX6_readTest_55 : decode cX6_readTest 55 = .ok (.ldc2_w 149, 3) := by decide +kernel
theorem dX6_readTest_58 : decode cX6_readTest 58 = .ok (.lcmp, 1) := by decide +kernel
theorem dX6_readTest_59 : decode cX6_readTest 59 = .ok (.ifCond .ne 7, 3) := by decide +kernel
theorem dX6_readTest_62 : decode cX6_readTest 62 = .ok (.iconst 1, 1) := by decide +kernel
theorem dX6_readTest_63 : decode cX6_readTest 63 = .ok (.goto 4, 3) := by decide +kernel
theorem dX6_readTest_66 : decode cX6_readTest 66 = .ok (.iconst 0, 1) := by decide +kernel
theorem dX6_readTest_67 : decode cX6_readTest 67 = .ok (.iastore, 1) := by decide +kernel
theorem dX6_readTest_68 : decode cX6_readTest 68 = .ok (.lload_n 1, 1) := by decide +kernel
theorem dX6_readTest_69 : decode cX6_readTest 69 = .ok (.ldc2_w 149, 3) := by decide +kernel
theorem dX6_readTest_72 : decode cX6_readTest 72 = .ok (.lcmp, 1) := by decide +kernel
theorem dX6_readTest_73 : decode cX6_readTest 73 = .ok (.ifCond .eq 23, 3) := by decide +kernel
theorem dX6_readTest_76 : decode cX6_readTest 76 = .ok (.lload_n 1, 1) := by decide +kernel
theorem dX6_readTest_77 : decode cX6_readTest 77 = .ok (.ldc2_w 151, 3) := by decide +kernel
theorem dX6_readTest_80 : decode cX6_readTest 80 = .ok (.lcmp, 1) := by decide +kernel
theorem dX6_readTest_81 : decode cX6_readTest 81 = .ok (.ifCond .eq 15, 3) := by decide +kernel
theorem dX6_readTest_84 : decode cX6_readTest 84 = .ok (.aload_n 0, 1) := by decide +kernel
theorem dX6_readTest_85 : decode cX6_readTest 85 = .ok (.iconst 1, 1) := by decide +kernel
theorem dX6_readTest_86 : decode cX6_readTest 86 = .ok (.aload_n 0, 1) := by decide +kernel
theorem dX6_readTest_87 : decode cX6_readTest 87 = .ok (.getfield 120, 3) := by decide +kernel
theorem dX6_readTest_90 : decode cX6_readTest 90 = .ok (.invokevirtual 133, 3) := by decide +kernel
theorem dX6_readTest_93 : decode cX6_readTest 93 = .ok (.ifCond .eq 7, 3) := by decide +kernel
theorem dX6_readTest_96 : decode cX6_readTest 96 = .ok (.iconst 1, 1) := by decide +kernel
theorem dX6_readTest_97 : decode cX6_readTest 97 = .ok (.goto 4, 3) := by decide +kernel
theorem dX6_readTest_100 : decode cX6_readTest 100 = .ok (.iconst 0, 1) := by decide +kernel
theorem dX6_readTest_101 : decode cX6_readTest 101 = .ok (.ireturn, 1) := by decide +kernel
theorem dX6_readRest_0 : decode cX6_readRest 0 = .ok (.lload_n 1, 1) := by decide +kernel
theorem dX6_readRest_1 : decode cX6_readRest 1 = .ok (.ldc2_w 153, 3) := by decide +kernel
theorem dX6_readRest_4 : decode cX6_readRest 4 = .ok (.lcmp, 1) := by decide +kernel
theorem dX6_readRest_5 : decode cX6_readRest 5 = .ok (.ifCond .ne 12, 3) := by decide +kernel
theorem dX6_readRest_8 : decode cX6_readRest 8 = .ok (.aload_n 0, 1) := by decide +kernel
theorem dX6_readRest_9 : decode cX6_readRest 9 = .ok (.iconst 0, 1) := by decide +kernel
theorem dX6_readRest_10 : decode cX6_readRest 10 = .ok (.iconst 1, 1) := by decide +kernel
theorem dX6_readRest_11 : decode cX6_readRest 11 = .ok (.bipush 9, 2) := by decide +kernel
theorem dX6_readRest_13 : decode cX6_readRest 13 = .ok (.invokevirtual 138, 3) := by decide +kernel
theorem dX6_readRest_16 : decode cX6_readRest 16 = .ok (.ireturn, 1) := by decide +kernel
theorem dX6_readRest_17 : decode cX6_readRest 17 = .ok (.lload_n 1, 1) := by decide +kernel
theorem dX6_readRest_18 : decode cX6_readRest 18 = .ok (.ldc2_w 155, 3) := by decide +kernel
theorem dX6_readRest_21 : decode cX6_readRest 21 = .ok (.lcmp, 1) := by decide +kernel
theorem dX6_readRest_22 : decode cX6_readRest 22 = .ok (.ifCond .ne 49, 3) := by decide +kernel
theorem dX6_readRest_25 : decode cX6_readRest 25 = .ok (.aload_n 0, 1) := by decide +kernel
theorem dX6_readRest_26 : decode cX6_readRest 26 = .ok (.iconst 0, 1) := by decide +kernel
theorem dX6_readRest_27 : decode cX6_readRest 27 = .ok (.iconst 0, 1) := by decide +kernel
theorem dX6_readRest_28 : decode cX6_readRest 28 = .ok (.iconst 5, 1) := by decide +kernel
theorem dX6_readRest_29 : decode cX6_readRest 29 = .ok (.invokevirtual 138, 3) := by decide +kernel
theorem dX6_readRest_32 : decode cX6_readRest 32 = .ok (.ifCond .eq 37, 3) := by decide +kernel
theorem dX6_readRest_35 : decode cX6_readRest 35 = .ok (.aload_n 0, 1) := by decide +kernel
theorem dX6_readRest_36 : decode cX6_readRest 36 = .ok (.iconst 1, 1) := by decide +kernel
theorem dX6_readRest_37 : decode cX6_readRest 37 = .ok (.aload_n 0, 1) := by decide +kernel
theorem dX6_readRest_38 : decode cX6_readRest 38 = .ok (.getfield 16, 3) := by decide +kernel
theorem dX6_readRest_41 : decode cX6_readRest 41 = .ok (.aload_n 0, 1) := by decide +kernel
theorem dX6_readRest_42 : decode cX6_readRest 42 = .ok (.getfield 25, 3) := by decide +kernel
theorem dX6_readRest_45 : decode cX6_readRest 45 = .ok (.iconst 0, 1) := by decide +kernel
theorem dX6_readRest_46 : decode cX6_readRest 46 = .ok (.iaload, 1) := by decide +kernel
theorem dX6_readRest_47 : decode cX6_readRest 47 = .ok (.iaload, 1) := by decide +kernel
theorem dX6_readRest_48 : decode cX6_readRest 48 = .ok (.aload_n 0, 1) := by decide +kernel
theorem dX6_readRest_49 : decode cX6_readRest 49 = .ok (.getfield 19, 3) := by decide +kernel
theorem dX6_readRest_52 : decode cX6_readRest 52 = .ok (.aload_n 0, 1) := by decide +kernel
theorem dX6_readRest_53 : decode cX6_readRest 53 = .ok (.getfield 25, 3) := by decide +kernel
theorem dX6_readRest_56 : decode cX6_readRest 56 = .ok (.iconst 0, 1) := by decide +kernel
theorem dX6_readRest_57 : decode cX6_readRest 57 = .ok (.iaload, 1) := by decide +kernel
theorem dX6_readRest_58 : decode cX6_readRest 58 = .ok (.iaload, 1) := by decide +kernel
theorem dX6_readRest_59 : decode cX6_readRest 59 = .ok (.invokevirtual 138, 3) := by decide +kernel
theorem dX6_readRest_62 : decode cX6_readRest 62 = .ok (.ifCond .eq 7, 3) := by decide +kernel
theorem dX6_readRest_65 : decode cX6_readRest 65 = .ok (.iconst 1, 1) := by decide +kernel
theorem dX6_readRest_66 : decode cX6_readRest 66 = .ok (.goto 4, 3) := by decide +kernel
theorem dX6_readRest_69 : decode cX6_readRest 69 = .ok (.iconst 0, 1) := by decide +kernel
theorem dX6_readRest_70 : decode cX6_readRest 70 = .ok (.ireturn, 1) := by decide +kernel
theorem dX6_readRest_71 : decode cX6_readRest 71 = .ok (.lload_n 1, 1) := by decide +kernel
theorem dX6_readRest_72 : decode cX6_readRest 72 = .ok (.ldc2_w 157, 3) := by decide +kernel
theorem dX6_readRest_75 : decode cX6_readRest 75 = .ok (.lcmp, 1) := by decide +kernel
theorem dX6_readRest_76 : decode cX6_readRest 76 = .ok (.ifCond .ne 32, 3) := by decide +kernel
theorem dX6_readRest_79 : decode cX6_readRest 79 = .ok (.aload_n 0, 1) := by decide +kernel
theorem dX6_readRest_80 : decode cX6_readRest 80 = .ok (.iconst 0, 1) := by decide +kernel
theorem dX6_readRest_81 : decode cX6_readRest 81 = .ok (.iconst 0, 1) := by decide +kernel
theorem dX6_readRest_82 : decode cX6_readRest 82 = .ok (.sipush 999, 3) := by decide +kernel
theorem dX6_readRest_85 : decode cX6_readRest 85 = .ok (.invokevirtual 138, 3) := by decide +kernel
theorem dX6_readRest_88 : decode cX6_readRest 88 = .ok (.ifCond .eq 18, 3) := by decide +kernel
theorem dX6_readRest_91 : decode cX6_readRest 91 = .ok (.aload_n 0, 1) := by decide +kernel
theorem dX6_readRest_92 : decode cX6_readRest 92 = .ok (.iconst 1, 1) := by decide +kernel
theorem dX6_readRest_93 : decode cX6_readRest 93 = .ok (.iconst 0, 1) := by decide +kernel
theorem dX6_readRest_94 : decode cX6_readRest 94 = .ok (.bipush 23, 2) := by decide +kernel
theorem dX6_readRest_96 : decode cX6_readRest 96 = .ok (.invokevirtual 138, 3) := by decide +kernel
theorem dX6_readRest_99 : decode cX6_readRest 99 = .ok (.ifCond .eq 7, 3) := by decide +kernel
theorem dX6_readRest_102 : decode cX6_readRest 102 = .ok (.iconst 1, 1) := by decide +kernel
theorem dX6_readRest_103 : decode cX6_readRest 103 = .ok (.goto 4, 3) := by decide +kernel
theorem dX6_readRest_106 : decode cX6_readRest 106 = .ok (.iconst 0, 1) := by decide +kernel
theorem dX6_readRest_107 : decode cX6_readRest 107 = .ok (.ireturn, 1) := by decide +kernel
theorem dX6_readRest_108 : decode cX6_readRest 108 = .ok (.lload_n 1, 1) := by decide +kernel
theorem dX6_readRest_109 : decode cX6_readRest 109 = .ok (.ldc2_w 159, 3) := by decide +kernel
theorem dX6_readRest_112 : decode cX6_readRest 112 = .ok (.lcmp, 1) := by decide +kernel
theorem dX6_readRest_113 : decode cX6_readRest 113 = .ok (.ifCond .ne 8, 3) := by decide +kernel
theorem dX6_readRest_116 : decode cX6_readRest 116 = .ok (.aload_n 0, 1) := by decide +kernel
theorem dX6_readRest_117 : decode cX6_readRest 117 = .ok (.invokevirtual 161, 3) := by decide +kernel
theorem dX6_readRest_120 : decode cX6_readRest 120 = .ok (.ireturn, 1) := by decide +kernel
theorem dX6_readRest_121 : decode cX6_readRest 121 = .ok (.lload_n 1, 1) := by decide +kernel
theorem dX6_readRest_122 : decode cX6_readRest 122 = .ok (.ldc2_w 164, 3) := by decide +kernel
theorem dX6_readRest_125 : decode cX6_readRest 125 = .ok (.lcmp, 1) := by decide +kernel
theorem dX6_readRest_126 : decode cX6_readRest 126 = .ok (.ifCond .ne 8, 3) := by decide +kernel
theorem dX6_readRest_129 : decode cX6_readRest 129 = .ok (.aload_n 0, 1) := by decide +kernel
theorem dX6_readRest_130 : decode cX6_readRest 130 = .ok (.invokevirtual 166, 3) := by decide +kernel
theorem dX6_readRest_133 : decode cX6_readRest 133 = .ok (.ireturn, 1) := by decide +kernel
theorem dX6_readRest_134 : decode cX6_readRest 134 = .ok (.lload_n 1, 1) := by decide +kernel
theorem dX6_readRest_135 : decode cX6_readRest 135 = .ok (.ldc2_w 169, 3) := by decide +kernel
theorem dX6_readRest_138 : decode cX6_readRest 138 = .ok (.lcmp, 1) := by decide +kernel
theorem dX6_readRest_139 : decode cX6_readRest 139 = .ok (.ifCond .ne 41, 3) := by decide +kernel
theorem dX6_readRest_142 : decode cX6_readRest 142 = .ok (.aload_n 0, 1) := by decide +kernel
theorem dX6_readRest_143 : decode cX6_readRest 143 = .ok (.invokevirtual 141, 3) := by decide +kernel
theorem dX6_readRest_146 : decode cX6_readRest 146 = .ok (.ifCond .eq 30, 3) := by decide +kernel
theorem dX6_readRest_149 : decode cX6_readRest 149 = .ok (.aload_n 0, 1) := by decide +kernel
theorem dX6_readRest_150 : decode cX6_readRest 150 = .ok (.iconst 1, 1) := by decide +kernel
theorem dX6_readRest_151 : decode cX6_readRest 151 = .ok (.iconst 0, 1) := by decide +kernel
theorem dX6_readRest_152 : decode cX6_readRest 152 = .ok (.aload_n 0, 1) := by decide +kernel
theorem dX6_readRest_153 : decode cX6_readRest 153 = .ok (.aload_n 0, 1) := by decide +kernel
theorem dX6_readRest_154 : decode cX6_readRest 154 = .ok (.getfield 25, 3) := by decide +kernel
theorem dX6_readRest_157 : decode cX6_readRest 157 = .ok (.iconst 0, 1) := by decide +kernel
theorem dX6_readRest_158 : decode cX6_readRest 158 = .ok (.iaload, 1) := by decide +kernel
theorem dX6_readRest_159 : decode cX6_readRest 159 = .ok (.bipush 7, 2) := by decide +kernel
theorem dX6_readRest_161 : decode cX6_readRest 161 = .ok (.invokevirtual 50, 3) := by decide +kernel
theorem dX6_readRest_164 : decode cX6_readRest 164 = .ok (.iconst 1, 1) := by decide +kernel
theorem dX6_readRest_165 : decode cX6_readRest 165 = .ok (.isub, 1) := by decide +kernel
theorem dX6_readRest_166 : decode cX6_readRest 166 = .ok (.invokevirtual 138, 3) := by decide +kernel
theorem dX6_readRest_169 : decode cX6_readRest 169 = .ok (.ifCond .eq 7, 3) := by decide +kernel
theorem dX6_readRest_172 : decode cX6_readRest 172 = .ok (.iconst 1, 1) := by decide +kernel
theorem dX6_readRest_173 : decode cX6_readRest 173 = .ok (.goto 13, 3) := by decide +kernel
theorem dX6_readRest_176 : decode cX6_readRest 176 = .ok (.iconst 0, 1) := by decide +kernel
theorem dX6_readRest_177 : decode cX6_readRest 177 = .ok (.goto 9, 3) := by decide +kernel
theorem dX6_readRest_180 : decode cX6_readRest 180 = .ok (.aload_n 0, 1) := by decide +kernel
theorem dX6_readRest_181 : decode cX6_readRest 181 = .ok (.iconst 1, 1) := by decide +kernel
theorem dX6_readRest_182 : decode cX6_readRest 182 = .ok (.iload_n 3, 1) := by decide +kernel
theorem dX6_readRest_183 : decode cX6_readRest 183 = .ok (.invokevirtual 133, 3) := by decide +kernel
theorem dX6_readRest_186 : decode cX6_readRest 186 = .ok (.ireturn, 1) := by decide +kernel
theorem dX6_does_0 : decode cX6_does 0 = .ok (.lload_n 1, 1) := by decide +kernel
theorem dX6_does_1 : decode cX6_does 1 = .ok (.ldc2_w 153, 3) := by decide +kernel
theorem dX6_does_4 : decode cX6_does 4 = .ok (.lcmp, 1) := by decide +kernel
theorem dX6_does_5 : decode cX6_does 5 = .ok (.ifCond .ne 33, 3) := by decide +kernel
theorem dX6_does_8 : decode cX6_does 8 = .ok (.aload_n 0, 1) := by decide +kernel
theorem dX6_does_9 : decode cX6_does 9 = .ok (.getfield 7, 3) := by decide +kernel
theorem dX6_does_12 : decode cX6_does 12 = .ok (.iconst 2, 1) := by decide +kernel
theorem dX6_does_13 : decode cX6_does 13 = .ok (.iaload, 1) := by decide +kernel
theorem dX6_does_14 : decode cX6_does 14 = .ok (.bipush 6, 2) := by decide +kernel
theorem dX6_does_16 : decode cX6_does 16 = .ok (.if_icmp .ge 20, 3) := by decide +kernel
theorem dX6_does_19 : decode cX6_does 19 = .ok (.aload_n 0, 1) := by decide +kernel
theorem dX6_does_20 : decode cX6_does 20 = .ok (.aload_n 0, 1) := by decide +kernel
theorem dX6_does_21 : decode cX6_does 21 = .ok (.getfield 25, 3) := by decide +kernel
theorem dX6_does_24 : decode cX6_does 24 = .ok (.iconst 0, 1) := by decide +kernel
theorem dX6_does_25 : decode cX6_does 25 = .ok (.iaload, 1) := by decide +kernel
theorem dX6_does_26 : decode cX6_does 26 = .ok (.invokevirtual 77, 3) := by decide +kernel
theorem dX6_does_29 : decode cX6_does 29 = .ok (.ifCond .lt 7, 3) := by decide +kernel
theorem dX6_does_32 : decode cX6_does 32 = .ok (.iconst 1, 1) := by decide +kernel
theorem dX6_does_33 : decode cX6_does 33 = .ok (.goto 4, 3) := by decide +kernel
theorem dX6_does_36 : decode cX6_does 36 = .ok (.iconst 0, 1) := by decide +kernel
theorem dX6_does_37 : decode cX6_does 37 = .ok (.ireturn, 1) := by decide +kernel
theorem dX6_does_38 : decode cX6_does 38 = .ok (.lload_n 1, 1) := by decide +kernel
theorem dX6_does_39 : decode cX6_does 39 = .ok (.ldc2_w 155, 3) := by decide +kernel
theorem dX6_does_42 : decode cX6_does 42 = .ok (.lcmp, 1) := by decide +kernel
theorem dX6_does_43 : decode cX6_does 43 = .ok (.ifCond .ne 24, 3) := by decide +kernel
theorem dX6_does_46 : decode cX6_does 46 = .ok (.aload_n 0, 1) := by decide +kernel
theorem dX6_does_47 : decode cX6_does 47 = .ok (.getfield 7, 3) := by decide +kernel
theorem dX6_does_50 : decode cX6_does 50 = .ok (.iconst 3, 1) := by decide +kernel
theorem dX6_does_51 : decode cX6_does 51 = .ok (.aload_n 0, 1) := by decide +kernel
theorem dX6_does_52 : decode cX6_does 52 = .ok (.getfield 25, 3) := by decide +kernel
theorem dX6_does_55 : decode cX6_does 55 = .ok (.iconst 0, 1) := by decide +kernel
theorem dX6_does_56 : decode cX6_does 56 = .ok (.iaload, 1) := by decide +kernel
theorem dX6_does_57 : decode cX6_does 57 = .ok (.iadd, 1) := by decide +kernel
theorem dX6_does_58 : decode cX6_does 58 = .ok (.aload_n 0, 1) := by decide +kernel
theorem dX6_does_59 : decode cX6_does 59 = .ok (.getfield 25, 3) := by decide +kernel
theorem dX6_does_62 : decode cX6_does 62 = .ok (.iconst 1, 1) := by decide +kernel
theorem dX6_does_63 : decode cX6_does 63 = .ok (.iaload, 1) := by decide +kernel
theorem dX6_does_64 : decode cX6_does 64 = .ok (.iastore, 1) := by decide +kernel
theorem dX6_does_65 : decode cX6_does 65 = .ok (.iconst 1, 1) := by decide +kernel
theorem dX6_does_66 : decode cX6_does 66 = .ok (.ireturn, 1) := by decide +kernel
theorem dX6_does_67 : decode cX6_does 67 = .ok (.lload_n 1, 1) := by decide +kernel
theorem dX6_does_68 : decode cX6_does 68 = .ok (.ldc2_w 157, 3) := by decide +kernel
theorem dX6_does_71 : decode cX6_does 71 = .ok (.lcmp, 1) := by decide +kernel
theorem dX6_does_72 : decode cX6_does 72 = .ok (.ifCond .ne 47, 3) := by decide +kernel
theorem dX6_does_75 : decode cX6_does 75 = .ok (.aload_n 0, 1) := by decide +kernel
theorem dX6_does_76 : decode cX6_does 76 = .ok (.aload_n 0, 1) := by decide +kernel
theorem dX6_does_77 : decode cX6_does 77 = .ok (.getfield 25, 3) := by decide +kernel
theorem dX6_does_80 : decode cX6_does 80 = .ok (.iconst 0, 1) := by decide +kernel
theorem dX6_does_81 : decode cX6_does 81 = .ok (.iaload, 1) := by decide +kernel
theorem dX6_does_82 : decode cX6_does 82 = .ok (.aload_n 0, 1) := by decide +kernel
theorem dX6_does_83 : decode cX6_does 83 = .ok (.getfield 25, 3) := by decide +kernel
theorem dX6_does_86 : decode cX6_does 86 = .ok (.iconst 1, 1) := by decide +kernel
theorem dX6_does_87 : decode cX6_does 87 = .ok (.iaload, 1) := by decide +kernel
theorem dX6_does_88 : decode cX6_does 88 = .ok (.invokevirtual 81, 3) := by decide +kernel
theorem dX6_does_91 : decode cX6_does 91 = .ok (.ifCond .eq 26, 3) := by decide +kernel
theorem dX6_does_94 : decode cX6_does 94 = .ok (.aload_n 0, 1) := by decide +kernel
theorem dX6_does_95 : decode cX6_does 95 = .ok (.aload_n 0, 1) := by decide +kernel
theorem dX6_does_96 : decode cX6_does 96 = .ok (.getfield 25, 3) := by decide +kernel
theorem dX6_does_99 : decode cX6_does 99 = .ok (.iconst 0, 1) := by decide +kernel
theorem dX6_does_100 : decode cX6_does 100 = .ok (.iaload, 1) := by decide +kernel
theorem dX6_does_101 : decode cX6_does 101 = .ok (.aload_n 0, 1) := by decide +kernel
theorem dX6_does_102 : decode cX6_does 102 = .ok (.getfield 25, 3) := by decide +kernel
theorem dX6_does_105 : decode cX6_does 105 = .ok (.iconst 1, 1) := by decide +kernel
theorem dX6_does_106 : decode cX6_does 106 = .ok (.iaload, 1) := by decide +kernel
theorem dX6_does_107 : decode cX6_does 107 = .ok (.invokevirtual 84, 3) := by decide +kernel
theorem dX6_does_110 : decode cX6_does 110 = .ok (.ifCond .lt 7, 3) := by decide +kernel
theorem dX6_does_113 : decode cX6_does 113 = .ok (.iconst 1, 1) := by decide +kernel
theorem dX6_does_114 : decode cX6_does 114 = .ok (.goto 4, 3) := by decide +kernel
theorem dX6_does_117 : decode cX6_does 117 = .ok (.iconst 0, 1) := by decide +kernel
theorem dX6_does_118 : decode cX6_does 118 = .ok (.ireturn, 1) := by decide +kernel
theorem dX6_does_119 : decode cX6_does 119 = .ok (.lload_n 1, 1) := by decide +kernel
theorem dX6_does_120 : decode cX6_does 120 = .ok (.ldc2_w 159, 3) := by decide +kernel
theorem dX6_does_123 : decode cX6_does 123 = .ok (.lcmp, 1) := by decide +kernel
theorem dX6_does_124 : decode cX6_does 124 = .ok (.ifCond .ne 71, 3) := by decide +kernel
theorem dX6_does_127 : decode cX6_does 127 = .ok (.aload_n 0, 1) := by decide +kernel
theorem dX6_does_128 : decode cX6_does 128 = .ok (.aload_n 0, 1) := by decide +kernel
theorem dX6_does_129 : decode cX6_does 129 = .ok (.getfield 25, 3) := by decide +kernel
theorem dX6_does_132 : decode cX6_does 132 = .ok (.iconst 0, 1) := by decide +kernel
theorem dX6_does_133 : decode cX6_does 133 = .ok (.iaload, 1) := by decide +kernel
theorem dX6_does_134 : decode cX6_does 134 = .ok (.aload_n 0, 1) := by decide +kernel
theorem dX6_does_135 : decode cX6_does 135 = .ok (.getfield 25, 3) := by decide +kernel
theorem dX6_does_138 : decode cX6_does 138 = .ok (.iconst 1, 1) := by decide +kernel
theorem dX6_does_139 : decode cX6_does 139 = .ok (.iaload, 1) := by decide +kernel
theorem dX6_does_140 : decode cX6_does 140 = .ok (.aload_n 0, 1) := by decide +kernel
theorem dX6_does_141 : decode cX6_does 141 = .ok (.getfield 25, 3) := by decide +kernel
theorem dX6_does_144 : decode cX6_does 144 = .ok (.iconst 3, 1) := by decide +kernel
theorem dX6_does_145 : decode cX6_does 145 = .ok (.iaload, 1) := by decide +kernel
theorem dX6_does_146 : decode cX6_does 146 = .ok (.invokevirtual 91, 3) := by decide +kernel
theorem dX6_does_149 : decode cX6_does 149 = .ok (.ifCond .eq 44, 3) := by decide +kernel
theorem dX6_does_152 : decode cX6_does 152 = .ok (.aload_n 0, 1) := by decide +kernel
theorem dX6_does_153 : decode cX6_does 153 = .ok (.aload_n 0, 1) := by decide +kernel
theorem dX6_does_154 : decode cX6_does 154 = .ok (.getfield 25, 3) := by decide +kernel
theorem dX6_does_157 : decode cX6_does 157 = .ok (.iconst 0, 1) := by decide +kernel
theorem dX6_does_158 : decode cX6_does 158 = .ok (.iaload, 1) := by decide +kernel
theorem dX6_does_159 : decode cX6_does 159 = .ok (.aload_n 0, 1) := by decide +kernel
theorem dX6_does_160 : decode cX6_does 160 = .ok (.getfield 25, 3) := by decide +kernel
theorem dX6_does_163 : decode cX6_does 163 = .ok (.iconst 1, 1) := by decide +kernel
theorem dX6_does_164 : decode cX6_does 164 = .ok (.iaload, 1) := by decide +kernel
theorem dX6_does_165 : decode cX6_does 165 = .ok (.aload_n 0, 1) := by decide +kernel
theorem dX6_does_166 : decode cX6_does 166 = .ok (.getfield 25, 3) := by decide +kernel
theorem dX6_does_169 : decode cX6_does 169 = .ok (.iconst 2, 1) := by decide +kernel
theorem dX6_does_170 : decode cX6_does 170 = .ok (.iaload, 1) := by decide +kernel
theorem dX6_does_171 : decode cX6_does 171 = .ok (.aload_n 0, 1) := by decide +kernel
theorem dX6_does_172 : decode cX6_does 172 = .ok (.getfield 25, 3) := by decide +kernel
theorem dX6_does_175 : decode cX6_does 175 = .ok (.iconst 3, 1) := by decide +kernel
theorem dX6_does_176 : decode cX6_does 176 = .ok (.iaload, 1) := by decide +kernel
theorem dX6_does_177 : decode cX6_does 177 = .ok (.aload_n 0, 1) := by decide +kernel
theorem dX6_does_178 : decode cX6_does 178 = .ok (.getfield 25, 3) := by decide +kernel
theorem dX6_does_181 : decode cX6_does 181 = .ok (.iconst 4, 1) := by decide +kernel
theorem dX6_does_182 : decode cX6_does 182 = .ok (.iaload, 1) := by decide +kernel
theorem dX6_does_183 : decode cX6_does 183 = .ok (.invokevirtual 94, 3) := by decide +kernel
theorem dX6_does_186 : decode cX6_does 186 = .ok (.ifCond .lt 7, 3) := by decide +kernel
theorem dX6_does_189 : decode cX6_does 189 = .ok (.iconst 1, 1) := by decide +kernel
theorem dX6_does_190 : decode cX6_does 190 = .ok (.goto 4, 3) := by decide +kernel
theorem dX6_does_193 : decode cX6_does 193 = .ok (.iconst 0, 1) := by decide +kernel
theorem dX6_does_194 : decode cX6_does 194 = .ok (.ireturn, 1) := by decide +kernel
theorem dX6_does_195 : decode cX6_does 195 = .ok (.lload_n 1, 1) := by decide +kernel
theorem dX6_does_196 : decode cX6_does 196 = .ok (.ldc2_w 164, 3) := by decide +kernel
theorem dX6_does_199 : decode cX6_does 199 = .ok (.lcmp, 1) := by decide +kernel
theorem dX6_does_200 : decode cX6_does 200 = .ok (.ifCond .ne 43, 3) := by decide +kernel
theorem dX6_does_203 : decode cX6_does 203 = .ok (.aload_n 0, 1) := by decide +kernel
theorem dX6_does_204 : decode cX6_does 204 = .ok (.aload_n 0, 1) := by decide +kernel
theorem dX6_does_205 : decode cX6_does 205 = .ok (.getfield 25, 3) := by decide +kernel
theorem dX6_does_208 : decode cX6_does 208 = .ok (.iconst 0, 1) := by decide +kernel
theorem dX6_does_209 : decode cX6_does 209 = .ok (.iaload, 1) := by decide +kernel
theorem dX6_does_210 : decode cX6_does 210 = .ok (.aload_n 0, 1) := by decide +kernel
theorem dX6_does_211 : decode cX6_does 211 = .ok (.getfield 25, 3) := by decide +kernel
theorem dX6_does_214 : decode cX6_does 214 = .ok (.iconst 1, 1) := by decide +kernel
theorem dX6_does_215 : decode cX6_does 215 = .ok (.iaload, 1) := by decide +kernel
theorem dX6_does_216 : decode cX6_does 216 = .ok (.aload_n 0, 1) := by decide +kernel
theorem dX6_does_217 : decode cX6_does 217 = .ok (.getfield 25, 3) := by decide +kernel
theorem dX6_does_220 : decode cX6_does 220 = .ok (.iconst 2, 1) := by decide +kernel
theorem dX6_does_221 : decode cX6_does 221 = .ok (.iaload, 1) := by decide +kernel
theorem dX6_does_222 : decode cX6_does 222 = .ok (.iconst 1, 1) := by decide +kernel
theorem dX6_does_223 : decode cX6_does 223 = .ok (.if_icmp .ne 7, 3) := by decide +kernel
theorem dX6_does_226 : decode cX6_does 226 = .ok (.iconst 1, 1) := by decide +kernel
theorem dX6_does_227 : decode cX6_does 227 = .ok (.goto 4, 3) := by decide +kernel
theorem dX6_does_230 : decode cX6_does 230 = .ok (.iconst 0, 1) := by decide +kernel
theorem dX6_does_231 : decode cX6_does 231 = .ok (.invokevirtual 98, 3) := by decide +kernel
theorem dX6_does_234 : decode cX6_does 234 = .ok (.ifCond .lt 7, 3) := by decide +kernel
theorem dX6_does_237 : decode cX6_does 237 = .ok (.iconst 1, 1) := by decide +kernel
theorem dX6_does_238 : decode cX6_does 238 = .ok (.goto 4, 3) := by decide +kernel
theorem dX6_does_241 : decode cX6_does 241 = .ok (.iconst 0, 1) := by decide +kernel
theorem dX6_does_242 : decode cX6_does 242 = .ok (.ireturn, 1) := by decide +kernel
theorem dX6_does_243 : decode cX6_does 243 = .ok (.aload_n 0, 1) := by decide +kernel
theorem dX6_does_244 : decode cX6_does 244 = .ok (.aload_n 0, 1) := by decide +kernel
theorem dX6_does_245 : decode cX6_does 245 = .ok (.getfield 25, 3) := by decide +kernel
theorem dX6_does_248 : decode cX6_does 248 = .ok (.iconst 0, 1) := by decide +kernel
theorem dX6_does_249 : decode cX6_does 249 = .ok (.iaload, 1) := by decide +kernel
theorem dX6_does_250 : decode cX6_does 250 = .ok (.aload_n 0, 1) := by decide +kernel
theorem dX6_does_251 : decode cX6_does 251 = .ok (.getfield 25, 3) := by decide +kernel
theorem dX6_does_254 : decode cX6_does 254 = .ok (.iconst 1, 1) := by decide +kernel
theorem dX6_does_255 : decode cX6_does 255 = .ok (.iaload, 1) := by decide +kernel
theorem dX6_does_256 : decode cX6_does 256 = .ok (.invokevirtual 105, 3) := by decide +kernel
theorem dX6_does_259 : decode cX6_does 259 = .ok (.ireturn, 1) := by decide +kernel
theorem dX6_readStatement_0 : decode cX6_readStatement 0 = .ok (.aload_n 0, 1) := by decide +kernel
theorem dX6_readStatement_1 : decode cX6_readStatement 1 = .ok (.invokevirtual 129, 3) := by decide +kernel
theorem dX6_readStatement_4 : decode cX6_readStatement 4 = .ok (.bipush 97, 2) := by decide +kernel
theorem dX6_readStatement_6 : decode cX6_readStatement 6 = .ok (.bipush 122, 2) := by decide +kernel
theorem dX6_readStatement_8 : decode cX6_readStatement 8 = .ok (.invokestatic 42, 3) := by decide +kernel
theorem dX6_readStatement_11 : decode cX6_readStatement 11 = .ok (.ifCond .ne 13, 3) := by decide +kernel
theorem dX6_readStatement_14 : decode cX6_readStatement 14 = .ok (.aload_n 0, 1) := by decide +kernel
theorem dX6_readStatement_15 : decode cX6_readStatement 15 = .ok (.iconst 1, 1) := by decide +kernel
theorem dX6_readStatement_16 : decode cX6_readStatement 16 = .ok (.aload_n 0, 1) := by decide +kernel
theorem dX6_readStatement_17 : decode cX6_readStatement 17 = .ok (.getfield 114, 3) := by decide +kernel
theorem dX6_readStatement_20 : decode cX6_readStatement 20 = .ok (.invokevirtual 133, 3) := by decide +kernel
theorem dX6_readStatement_23 : decode cX6_readStatement 23 = .ok (.ireturn, 1) := by decide +kernel
theorem dX6_readStatement_24 : decode cX6_readStatement 24 = .ok (.aload_n 0, 1) := by decide +kernel
theorem dX6_readStatement_25 : decode cX6_readStatement 25 = .ok (.invokevirtual 145, 3) := by decide +kernel
theorem dX6_readStatement_28 : decode cX6_readStatement 28 = .ok (.lstore_n 1, 1) := by decide +kernel
theorem dX6_readStatement_29 : decode cX6_readStatement 29 = .ok (.aload_n 0, 1) := by decide +kernel
theorem dX6_readStatement_30 : decode cX6_readStatement 30 = .ok (.getfield 120, 3) := by decide +kernel
theorem dX6_readStatement_33 : decode cX6_readStatement 33 = .ok (.istore_n 3, 1) := by decide +kernel
theorem dX6_readStatement_34 : decode cX6_readStatement 34 = .ok (.aload_n 0, 1) := by decide +kernel
theorem dX6_readStatement_35 : decode cX6_readStatement 35 = .ok (.lload_n 1, 1) := by decide +kernel
theorem dX6_readStatement_36 : decode cX6_readStatement 36 = .ok (.iload_n 3, 1) := by decide +kernel
theorem dX6_readStatement_37 : decode cX6_readStatement 37 = .ok (.invokevirtual 171, 3) := by decide +kernel
theorem dX6_readStatement_40 : decode cX6_readStatement 40 = .ok (.ifCond .ne 5, 3) := by decide +kernel
theorem dX6_readStatement_43 : decode cX6_readStatement 43 = .ok (.iconst 0, 1) := by decide +kernel
theorem dX6_readStatement_44 : decode cX6_readStatement 44 = .ok (.ireturn, 1) := by decide +kernel
theorem dX6_readStatement_45 : decode cX6_readStatement 45 = .ok (.aload_n 0, 1) := by decide +kernel
theorem dX6_readStatement_46 : decode cX6_readStatement 46 = .ok (.invokevirtual 129, 3) := by decide +kernel
theorem dX6_readStatement_49 : decode cX6_readStatement 49 = .ok (.bipush 59, 2) := by decide +kernel
theorem dX6_readStatement_51 : decode cX6_readStatement 51 = .ok (.if_icmp .eq 13, 3) := by decide +kernel
theorem dX6_readStatement_54 : decode cX6_readStatement 54 = .ok (.aload_n 0, 1) := by decide +kernel
theorem dX6_readStatement_55 : decode cX6_readStatement 55 = .ok (.iconst 1, 1) := by decide +kernel
theorem dX6_readStatement_56 : decode cX6_readStatement 56 = .ok (.aload_n 0, 1) := by decide +kernel
theorem dX6_readStatement_57 : decode cX6_readStatement 57 = .ok (.getfield 114, 3) := by decide +kernel
theorem dX6_readStatement_60 : decode cX6_readStatement 60 = .ok (.invokevirtual 133, 3) := by decide +kernel
theorem dX6_readStatement_63 : decode cX6_readStatement 63 = .ok (.ireturn, 1) := by decide +kernel
theorem dX6_readStatement_64 : decode cX6_readStatement 64 = .ok (.aload_n 0, 1) := by decide +kernel
theorem dX6_readStatement_65 : decode cX6_readStatement 65 = .ok (.dup, 1) := by decide +kernel
theorem dX6_readStatement_66 : decode cX6_readStatement 66 = .ok (.getfield 114, 3) := by decide +kernel
theorem dX6_readStatement_69 : decode cX6_readStatement 69 = .ok (.iconst 1, 1) := by decide +kernel
theorem dX6_readStatement_70 : decode cX6_readStatement 70 = .ok (.iadd, 1) := by decide +kernel
theorem dX6_readStatement_71 : decode cX6_readStatement 71 = .ok (.putfield 114, 3) := by decide +kernel
theorem dX6_readStatement_74 : decode cX6_readStatement 74 = .ok (.aload_n 0, 1) := by decide +kernel
theorem dX6_readStatement_75 : decode cX6_readStatement 75 = .ok (.lload_n 1, 1) := by decide +kernel
theorem dX6_readStatement_76 : decode cX6_readStatement 76 = .ok (.invokevirtual 175, 3) := by decide +kernel
theorem dX6_readStatement_79 : decode cX6_readStatement 79 = .ok (.ifCond .ne 12, 3) := by decide +kernel
theorem dX6_readStatement_82 : decode cX6_readStatement 82 = .ok (.aload_n 0, 1) := by decide +kernel
theorem dX6_readStatement_83 : decode cX6_readStatement 83 = .ok (.iconst 3, 1) := by decide +kernel
theorem dX6_readStatement_84 : decode cX6_readStatement 84 = .ok (.iload_n 3, 1) := by decide +kernel
theorem dX6_readStatement_85 : decode cX6_readStatement 85 = .ok (.invokevirtual 133, 3) := by decide +kernel
theorem dX6_readStatement_88 : decode cX6_readStatement 88 = .ok (.ifCond .eq 7, 3) := by decide +kernel
theorem dX6_readStatement_91 : decode cX6_readStatement 91 = .ok (.iconst 1, 1) := by decide +kernel
theorem dX6_readStatement_92 : decode cX6_readStatement 92 = .ok (.goto 4, 3) := by decide +kernel
theorem dX6_readStatement_95 : decode cX6_readStatement 95 = .ok (.iconst 0, 1) := by decide +kernel
theorem dX6_readStatement_96 : decode cX6_readStatement 96 = .ok (.ireturn, 1) := by decide +kernel
theorem dX6_readText_0 : decode cX6_readText 0 = .ok (.aload_n 0, 1) := by decide +kernel
theorem dX6_readText_1 : decode cX6_readText 1 = .ok (.iconst 0, 1) := by decide +kernel
theorem dX6_readText_2 : decode cX6_readText 2 = .ok (.putfield 179, 3) := by decide +kernel
theorem dX6_readText_5 : decode cX6_readText 5 = .ok (.aload_n 0, 1) := by decide +kernel
theorem dX6_readText_6 : decode cX6_readText 6 = .ok (.iconst 0, 1) := by decide +kernel
theorem dX6_readText_7 : decode cX6_readText 7 = .ok (.putfield 114, 3) := by decide +kernel
theorem dX6_readText_10 : decode cX6_readText 10 = .ok (.aload_n 0, 1) := by decide +kernel
theorem dX6_readText_11 : decode cX6_readText 11 = .ok (.iconst 0, 1) := by decide +kernel
theorem dX6_readText_12 : decode cX6_readText 12 = .ok (.putfield 117, 3) := by decide +kernel
theorem dX6_readText_15 : decode cX6_readText 15 = .ok (.aload_n 0, 1) := by decide +kernel
theorem dX6_readText_16 : decode cX6_readText 16 = .ok (.invokevirtual 129, 3) := by decide +kernel
theorem dX6_readText_19 : decode cX6_readText 19 = .ok (.iconst (-1), 1) := by decide +kernel
theorem dX6_readText_20 : decode cX6_readText 20 = .ok (.if_icmp .eq 25, 3) := by decide +kernel
theorem dX6_readText_23 : decode cX6_readText 23 = .ok (.aload_n 0, 1) := by decide +kernel
theorem dX6_readText_24 : decode cX6_readText 24 = .ok (.invokevirtual 182, 3) := by decide +kernel
theorem dX6_readText_27 : decode cX6_readText 27 = .ok (.ifCond .ne 5, 3) := by decide +kernel
theorem dX6_readText_30 : decode cX6_readText 30 = .ok (.iconst 0, 1) := by decide +kernel
theorem dX6_readText_31 : decode cX6_readText 31 = .ok (.ireturn, 1) := by decide +kernel
theorem dX6_readText_32 : decode cX6_readText 32 = .ok (.aload_n 0, 1) := by decide +kernel
theorem dX6_readText_33 : decode cX6_readText 33 = .ok (.dup, 1) := by decide +kernel
theorem dX6_readText_34 : decode cX6_readText 34 = .ok (.getfield 179, 3) := by decide +kernel
theorem dX6_readText_37 : decode cX6_readText 37 = .ok (.iconst 1, 1) := by decide +kernel
theorem dX6_readText_38 : decode cX6_readText 38 = .ok (.iadd, 1) := by decide +kernel
theorem dX6_readText_39 : decode cX6_readText 39 = .ok (.putfield 179, 3) := by decide +kernel
theorem dX6_readText_42 : decode cX6_readText 42 = .ok (.goto (-27), 3) := by decide +kernel
theorem dX6_readText_45 : decode cX6_readText 45 = .ok (.iconst 1, 1) := by decide +kernel
theorem dX6_readText_46 : decode cX6_readText 46 = .ok (.ireturn, 1) := by decide +kernel
theorem dX6_tell_0 : decode cX6_tell 0 = .ok (.aload_n 0, 1) := by decide +kernel
theorem dX6_tell_1 : decode cX6_tell 1 = .ok (.iconst 0, 1) := by decide +kernel
theorem dX6_tell_2 : decode cX6_tell 2 = .ok (.putfield 38, 3) := by decide +kernel
theorem dX6_tell_5 : decode cX6_tell 5 = .ok (.iconst 0, 1) := by decide +kernel
theorem dX6_tell_6 : decode cX6_tell 6 = .ok (.istore_n 1, 1) := by decide +kernel
theorem dX6_tell_7 : decode cX6_tell 7 = .ok (.iload_n 1, 1) := by decide +kernel
theorem dX6_tell_8 : decode cX6_tell 8 = .ok (.sipush 7737, 3) := by decide +kernel
theorem dX6_tell_11 : decode cX6_tell 11 = .ok (.if_icmp .ge 21, 3) := by decide +kernel
theorem dX6_tell_14 : decode cX6_tell 14 = .ok (.aload_n 0, 1) := by decide +kernel
theorem dX6_tell_15 : decode cX6_tell 15 = .ok (.getfield 13, 3) := by decide +kernel
theorem dX6_tell_18 : decode cX6_tell 18 = .ok (.iload_n 1, 1) := by decide +kernel
theorem dX6_tell_19 : decode cX6_tell 19 = .ok (.aload_n 0, 1) := by decide +kernel
theorem dX6_tell_20 : decode cX6_tell 20 = .ok (.getfield 7, 3) := by decide +kernel
theorem dX6_tell_23 : decode cX6_tell 23 = .ok (.iload_n 1, 1) := by decide +kernel
theorem dX6_tell_24 : decode cX6_tell 24 = .ok (.iaload, 1) := by decide +kernel
theorem dX6_tell_25 : decode cX6_tell 25 = .ok (.iastore, 1) := by decide +kernel
theorem dX6_tell_26 : decode cX6_tell 26 = .ok (.iinc 1 1, 3) := by decide +kernel
theorem dX6_tell_29 : decode cX6_tell 29 = .ok (.goto (-22), 3) := by decide +kernel
theorem dX6_tell_32 : decode cX6_tell 32 = .ok (.aload_n 0, 1) := by decide +kernel
theorem dX6_tell_33 : decode cX6_tell 33 = .ok (.invokevirtual 185, 3) := by decide +kernel
theorem dX6_tell_36 : decode cX6_tell 36 = .ok (.istore_n 1, 1) := by decide +kernel
theorem dX6_tell_37 : decode cX6_tell 37 = .ok (.aload_n 0, 1) := by decide +kernel
theorem dX6_tell_38 : decode cX6_tell 38 = .ok (.iconst 0, 1) := by decide +kernel
theorem dX6_tell_39 : decode cX6_tell 39 = .ok (.putfield 108, 3) := by decide +kernel
theorem dX6_tell_42 : decode cX6_tell 42 = .ok (.aload_n 0, 1) := by decide +kernel
theorem dX6_tell_43 : decode cX6_tell 43 = .ok (.aload_n 0, 1) := by decide +kernel
theorem dX6_tell_44 : decode cX6_tell 44 = .ok (.getfield 117, 3) := by decide +kernel
theorem dX6_tell_47 : decode cX6_tell 47 = .ok (.putfield 188, 3) := by decide +kernel
theorem dX6_tell_50 : decode cX6_tell 50 = .ok (.iload_n 1, 1) := by decide +kernel
theorem dX6_tell_51 : decode cX6_tell 51 = .ok (.ifCond .eq 8, 3) := by decide +kernel
theorem dX6_tell_54 : decode cX6_tell 54 = .ok (.aload_n 0, 1) := by decide +kernel
theorem dX6_tell_55 : decode cX6_tell 55 = .ok (.getfield 179, 3) := by decide +kernel
theorem dX6_tell_58 : decode cX6_tell 58 = .ok (.ireturn, 1) := by decide +kernel
theorem dX6_tell_59 : decode cX6_tell 59 = .ok (.iconst 0, 1) := by decide +kernel
theorem dX6_tell_60 : decode cX6_tell 60 = .ok (.istore_n 2, 1) := by decide +kernel
theorem dX6_tell_61 : decode cX6_tell 61 = .ok (.iload_n 2, 1) := by decide +kernel
theorem dX6_tell_62 : decode cX6_tell 62 = .ok (.sipush 7737, 3) := by decide +kernel
theorem dX6_tell_65 : decode cX6_tell 65 = .ok (.if_icmp .ge 21, 3) := by decide +kernel
theorem dX6_tell_68 : decode cX6_tell 68 = .ok (.aload_n 0, 1) := by decide +kernel
theorem dX6_tell_69 : decode cX6_tell 69 = .ok (.getfield 7, 3) := by decide +kernel
theorem dX6_tell_72 : decode cX6_tell 72 = .ok (.iload_n 2, 1) := by decide +kernel
theorem dX6_tell_73 : decode cX6_tell 73 = .ok (.aload_n 0, 1) := by decide +kernel
theorem dX6_tell_74 : decode cX6_tell 74 = .ok (.getfield 13, 3) := by decide +kernel
theorem dX6_tell_77 : decode cX6_tell 77 = .ok (.iload_n 2, 1) := by decide +kernel
theorem dX6_tell_78 : decode cX6_tell 78 = .ok (.iaload, 1) := by decide +kernel
theorem dX6_tell_79 : decode cX6_tell 79 = .ok (.iastore, 1) := by decide +kernel
theorem dX6_tell_80 : decode cX6_tell 80 = .ok (.iinc 2 1, 3) := by decide +kernel
theorem dX6_tell_83 : decode cX6_tell 83 = .ok (.goto (-22), 3) := by decide +kernel
theorem dX6_tell_86 : decode cX6_tell 86 = .ok (.iconst (-1), 1) := by decide +kernel
theorem dX6_tell_87 : decode cX6_tell 87 = .ok (.ireturn, 1) := by decide +kernel
theorem dX6_fault_0 : decode cX6_fault 0 = .ok (.aload_n 0, 1) := by decide +kernel
theorem dX6_fault_1 : decode cX6_fault 1 = .ok (.iconst 0, 1) := by decide +kernel
theorem dX6_fault_2 : decode cX6_fault 2 = .ok (.putfield 38, 3) := by decide +kernel
theorem dX6_fault_5 : decode cX6_fault 5 = .ok (.aload_n 0, 1) := by decide +kernel
theorem dX6_fault_6 : decode cX6_fault 6 = .ok (.getfield 188, 3) := by decide +kernel
theorem dX6_fault_9 : decode cX6_fault 9 = .ok (.ireturn, 1) := by decide +kernel
theorem dX6_dayOf_0 : decode cX6_dayOf 0 = .ok (.iload_n 2, 1) := by decide +kernel
theorem dX6_dayOf_1 : decode cX6_dayOf 1 = .ok (.aload_n 0, 1) := by decide +kernel
theorem dX6_dayOf_2 : decode cX6_dayOf 2 = .ok (.iload_n 1, 1) := by decide +kernel
theorem dX6_dayOf_3 : decode cX6_dayOf 3 = .ok (.bipush 7, 2) := by decide +kernel
theorem dX6_dayOf_5 : decode cX6_dayOf 5 = .ok (.invokevirtual 50, 3) := by decide +kernel
theorem dX6_dayOf_8 : decode cX6_dayOf 8 = .ok (.if_icmp .ne 12, 3) := by decide +kernel
theorem dX6_dayOf_11 : decode cX6_dayOf 11 = .ok (.aload_n 0, 1) := by decide +kernel
theorem dX6_dayOf_12 : decode cX6_dayOf 12 = .ok (.getfield 7, 3) := by decide +kernel
theorem dX6_dayOf_15 : decode cX6_dayOf 15 = .ok (.iconst 0, 1) := by decide +kernel
theorem dX6_dayOf_16 : decode cX6_dayOf 16 = .ok (.iaload, 1) := by decide +kernel
theorem dX6_dayOf_17 : decode cX6_dayOf 17 = .ok (.goto 18, 3) := by decide +kernel
theorem dX6_dayOf_20 : decode cX6_dayOf 20 = .ok (.aload_n 0, 1) := by decide +kernel
theorem dX6_dayOf_21 : decode cX6_dayOf 21 = .ok (.getfield 7, 3) := by decide +kernel
theorem dX6_dayOf_24 : decode cX6_dayOf 24 = .ok (.iload_n 1, 1) := by decide +kernel
theorem dX6_dayOf_25 : decode cX6_dayOf 25 = .ok (.bipush 8, 2) := by decide +kernel
theorem dX6_dayOf_27 : decode cX6_dayOf 27 = .ok (.iconst 3, 1) := by decide +kernel
theorem dX6_dayOf_28 : decode cX6_dayOf 28 = .ok (.iload_n 2, 1) := by decide +kernel
theorem dX6_dayOf_29 : decode cX6_dayOf 29 = .ok (.imul, 1) := by decide +kernel
theorem dX6_dayOf_30 : decode cX6_dayOf 30 = .ok (.iadd, 1) := by decide +kernel
theorem dX6_dayOf_31 : decode cX6_dayOf 31 = .ok (.invokestatic 46, 3) := by decide +kernel
theorem dX6_dayOf_34 : decode cX6_dayOf 34 = .ok (.iaload, 1) := by decide +kernel
theorem dX6_dayOf_35 : decode cX6_dayOf 35 = .ok (.ireturn, 1) := by decide +kernel
theorem dX6_openBehind_0 : decode cX6_openBehind 0 = .ok (.iconst 0, 1) := by decide +kernel
theorem dX6_openBehind_1 : decode cX6_openBehind 1 = .ok (.istore 4, 2) := by decide +kernel
theorem dX6_openBehind_3 : decode cX6_openBehind 3 = .ok (.iconst 0, 1) := by decide +kernel
theorem dX6_openBehind_4 : decode cX6_openBehind 4 = .ok (.istore 5, 2) := by decide +kernel
theorem dX6_openBehind_6 : decode cX6_openBehind 6 = .ok (.iload 5, 2) := by decide +kernel
theorem dX6_openBehind_8 : decode cX6_openBehind 8 = .ok (.iload_n 2, 1) := by decide +kernel
theorem dX6_openBehind_9 : decode cX6_openBehind 9 = .ok (.if_icmp .ge 40, 3) := by decide +kernel
theorem dX6_openBehind_12 : decode cX6_openBehind 12 = .ok (.iload 4, 2) := by decide +kernel
theorem dX6_openBehind_14 : decode cX6_openBehind 14 = .ok (.aload_n 0, 1) := by decide +kernel
theorem dX6_openBehind_15 : decode cX6_openBehind 15 = .ok (.getfield 32, 3) := by decide +kernel
theorem dX6_openBehind_18 : decode cX6_openBehind 18 = .ok (.iload 5, 2) := by decide +kernel
theorem dX6_openBehind_20 : decode cX6_openBehind 20 = .ok (.baload, 1) := by decide +kernel
theorem dX6_openBehind_21 : decode cX6_openBehind 21 = .ok (.ifCond .eq 18, 3) := by decide +kernel
theorem dX6_openBehind_24 : decode cX6_openBehind 24 = .ok (.aload_n 0, 1) := by decide +kernel
theorem dX6_openBehind_25 : decode cX6_openBehind 25 = .ok (.iload_n 1, 1) := by decide +kernel
theorem dX6_openBehind_26 : decode cX6_openBehind 26 = .ok (.iload 5, 2) := by decide +kernel
theorem dX6_openBehind_28 : decode cX6_openBehind 28 = .ok (.invokevirtual 191, 3) := by decide +kernel
theorem dX6_openBehind_31 : decode cX6_openBehind 31 = .ok (.iload_n 3, 1) := by decide +kernel
theorem dX6_openBehind_32 : decode cX6_openBehind 32 = .ok (.if_icmp .le 7, 3) := by decide +kernel
theorem dX6_openBehind_35 : decode cX6_openBehind 35 = .ok (.iconst 1, 1) := by decide +kernel
theorem dX6_openBehind_36 : decode cX6_openBehind 36 = .ok (.goto 4, 3) := by decide +kernel
theorem dX6_openBehind_39 : decode cX6_openBehind 39 = .ok (.iconst 0, 1) := by decide +kernel
theorem dX6_openBehind_40 : decode cX6_openBehind 40 = .ok (.iadd, 1) := by decide +kernel
theorem dX6_openBehind_41 : decode cX6_openBehind 41 = .ok (.istore 4, 2) := by decide +kernel
theorem dX6_openBehind_43 : decode cX6_openBehind 43 = .ok (.iinc 5 1, 3) := by decide +kernel
theorem dX6_openBehind_46 : decode cX6_openBehind 46 = .ok (.goto (-40), 3) := by decide +kernel
theorem dX6_openBehind_49 : decode cX6_openBehind 49 = .ok (.iload 4, 2) := by decide +kernel
theorem dX6_openBehind_51 : decode cX6_openBehind 51 = .ok (.ireturn, 1) := by decide +kernel
theorem dX6_walksBy_0 : decode cX6_walksBy 0 = .ok (.aload_n 0, 1) := by decide +kernel
theorem dX6_walksBy_1 : decode cX6_walksBy 1 = .ok (.iconst 0, 1) := by decide +kernel
theorem dX6_walksBy_2 : decode cX6_walksBy 2 = .ok (.putfield 194, 3) := by decide +kernel
theorem dX6_walksBy_5 : decode cX6_walksBy 5 = .ok (.iconst (-1), 1) := by decide +kernel
theorem dX6_walksBy_6 : decode cX6_walksBy 6 = .ok (.istore 4, 2) := by decide +kernel
theorem dX6_walksBy_8 : decode cX6_walksBy 8 = .ok (.iconst 0, 1) := by decide +kernel
theorem dX6_walksBy_9 : decode cX6_walksBy 9 = .ok (.istore 5, 2) := by decide +kernel
theorem dX6_walksBy_11 : decode cX6_walksBy 11 = .ok (.iload 5, 2) := by decide +kernel
theorem dX6_walksBy_13 : decode cX6_walksBy 13 = .ok (.iload_n 2, 1) := by decide +kernel
theorem dX6_walksBy_14 : decode cX6_walksBy 14 = .ok (.if_icmp .ge 208, 3) := by decide +kernel
theorem dX6_walksBy_17 : decode cX6_walksBy 17 = .ok (.iload 5, 2) := by decide +kernel
theorem dX6_walksBy_19 : decode cX6_walksBy 19 = .ok (.iload_n 3, 1) := by decide +kernel
theorem dX6_walksBy_20 : decode cX6_walksBy 20 = .ok (.if_icmp .eq 37, 3) := by decide +kernel
theorem dX6_walksBy_23 : decode cX6_walksBy 23 = .ok (.iload 5, 2) := by decide +kernel
theorem dX6_walksBy_25 : decode cX6_walksBy 25 = .ok (.aload_n 0, 1) := by decide +kernel
theorem dX6_walksBy_26 : decode cX6_walksBy 26 = .ok (.iload_n 1, 1) := by decide +kernel
theorem dX6_walksBy_27 : decode cX6_walksBy 27 = .ok (.bipush 7, 2) := by decide +kernel
theorem dX6_walksBy_29 : decode cX6_walksBy 29 = .ok (.invokevirtual 50, 3) := by decide +kernel
theorem dX6_walksBy_32 : decode cX6_walksBy 32 = .ok (.if_icmp .ge 29, 3) := by decide +kernel
theorem dX6_walksBy_35 : decode cX6_walksBy 35 = .ok (.aload_n 0, 1) := by decide +kernel
theorem dX6_walksBy_36 : decode cX6_walksBy 36 = .ok (.getfield 7, 3) := by decide +kernel
theorem dX6_walksBy_39 : decode cX6_walksBy 39 = .ok (.iload_n 1, 1) := by decide +kernel
theorem dX6_walksBy_40 : decode cX6_walksBy 40 = .ok (.bipush 8, 2) := by decide +kernel
theorem dX6_walksBy_42 : decode cX6_walksBy 42 = .ok (.iconst 3, 1) := by decide +kernel
theorem dX6_walksBy_43 : decode cX6_walksBy 43 = .ok (.iload 5, 2) := by decide +kernel
theorem dX6_walksBy_45 : decode cX6_walksBy 45 = .ok (.imul, 1) := by decide +kernel
theorem dX6_walksBy_46 : decode cX6_walksBy 46 = .ok (.iadd, 1) := by decide +kernel
theorem dX6_walksBy_47 : decode cX6_walksBy 47 = .ok (.iconst 2, 1) := by decide +kernel
theorem dX6_walksBy_48 : decode cX6_walksBy 48 = .ok (.iadd, 1) := by decide +kernel
theorem dX6_walksBy_49 : decode cX6_walksBy 49 = .ok (.invokestatic 46, 3) := by decide +kernel
theorem dX6_walksBy_52 : decode cX6_walksBy 52 = .ok (.iaload, 1) := by decide +kernel
theorem dX6_walksBy_53 : decode cX6_walksBy 53 = .ok (.iconst 1, 1) := by decide +kernel
theorem dX6_walksBy_54 : decode cX6_walksBy 54 = .ok (.if_icmp .ne 7, 3) := by decide +kernel
theorem dX6_walksBy_57 : decode cX6_walksBy 57 = .ok (.iconst 1, 1) := by decide +kernel
theorem dX6_walksBy_58 : decode cX6_walksBy 58 = .ok (.goto 4, 3) := by decide +kernel
theorem dX6_walksBy_61 : decode cX6_walksBy 61 = .ok (.iconst 0, 1) := by decide +kernel
theorem dX6_walksBy_62 : decode cX6_walksBy 62 = .ok (.istore 6, 2) := by decide +kernel
theorem dX6_walksBy_64 : decode cX6_walksBy 64 = .ok (.aload_n 0, 1) := by decide +kernel
theorem dX6_walksBy_65 : decode cX6_walksBy 65 = .ok (.iload_n 1, 1) := by decide +kernel
theorem dX6_walksBy_66 : decode cX6_walksBy 66 = .ok (.iload 5, 2) := by decide +kernel
theorem dX6_walksBy_68 : decode cX6_walksBy 68 = .ok (.invokevirtual 191, 3) := by decide +kernel
theorem dX6_walksBy_71 : decode cX6_walksBy 71 = .ok (.istore 7, 2) := by decide +kernel
theorem dX6_walksBy_73 : decode cX6_walksBy 73 = .ok (.aload_n 0, 1) := by decide +kernel
theorem dX6_walksBy_74 : decode cX6_walksBy 74 = .ok (.getfield 28, 3) := by decide +kernel
theorem dX6_walksBy_77 : decode cX6_walksBy 77 = .ok (.iload 5, 2) := by decide +kernel
theorem dX6_walksBy_79 : decode cX6_walksBy 79 = .ok (.iload 6, 2) := by decide +kernel
theorem dX6_walksBy_81 : decode cX6_walksBy 81 = .ok (.ifCond .ne 27, 3) := by decide +kernel
theorem dX6_walksBy_84 : decode cX6_walksBy 84 = .ok (.iload 4, 2) := by decide +kernel
theorem dX6_walksBy_86 : decode cX6_walksBy 86 = .ok (.iconst (-1), 1) := by decide +kernel
theorem dX6_walksBy_87 : decode cX6_walksBy 87 = .ok (.if_icmp .eq 17, 3) := by decide +kernel
theorem dX6_walksBy_90 : decode cX6_walksBy 90 = .ok (.iload 7, 2) := by decide +kernel
theorem dX6_walksBy_92 : decode cX6_walksBy 92 = .ok (.iload 4, 2) := by decide +kernel
theorem dX6_walksBy_94 : decode cX6_walksBy 94 = .ok (.aload_n 0, 1) := by decide +kernel
theorem dX6_walksBy_95 : decode cX6_walksBy 95 = .ok (.getfield 7, 3) := by decide +kernel
theorem dX6_walksBy_98 : decode cX6_walksBy 98 = .ok (.iconst 5, 1) := by decide +kernel
theorem dX6_walksBy_99 : decode cX6_walksBy 99 = .ok (.iaload, 1) := by decide +kernel
theorem dX6_walksBy_100 : decode cX6_walksBy 100 = .ok (.iadd, 1) := by decide +kernel
theorem dX6_walksBy_101 : decode cX6_walksBy 101 = .ok (.if_icmp .lt 7, 3) := by decide +kernel
theorem dX6_walksBy_104 : decode cX6_walksBy 104 = .ok (.iconst 1, 1) := by decide +kernel
theorem dX6_walksBy_105 : decode cX6_walksBy 105 = .ok (.goto 4, 3) := by decide +kernel
theorem dX6_walksBy_108 : decode cX6_walksBy 108 = .ok (.iconst 0, 1) := by decide +kernel
theorem dX6_walksBy_109 : decode cX6_walksBy 109 = .ok (.bastore, 1) := by decide +kernel
theorem dX6_walksBy_110 : decode cX6_walksBy 110 = .ok (.aload_n 0, 1) := by decide +kernel
theorem dX6_walksBy_111 : decode cX6_walksBy 111 = .ok (.getfield 32, 3) := by decide +kernel
theorem dX6_walksBy_114 : decode cX6_walksBy 114 = .ok (.iload 5, 2) := by decide +kernel
theorem dX6_walksBy_116 : decode cX6_walksBy 116 = .ok (.aload_n 0, 1) := by decide +kernel
theorem dX6_walksBy_117 : decode cX6_walksBy 117 = .ok (.getfield 28, 3) := by decide +kernel
theorem dX6_walksBy_120 : decode cX6_walksBy 120 = .ok (.iload 5, 2) := by decide +kernel
theorem dX6_walksBy_122 : decode cX6_walksBy 122 = .ok (.baload, 1) := by decide +kernel
theorem dX6_walksBy_123 : decode cX6_walksBy 123 = .ok (.bastore, 1) := by decide +kernel
theorem dX6_walksBy_124 : decode cX6_walksBy 124 = .ok (.aload_n 0, 1) := by decide +kernel
theorem dX6_walksBy_125 : decode cX6_walksBy 125 = .ok (.getfield 28, 3) := by decide +kernel
theorem dX6_walksBy_128 : decode cX6_walksBy 128 = .ok (.iload 5, 2) := by decide +kernel
theorem dX6_walksBy_130 : decode cX6_walksBy 130 = .ok (.baload, 1) := by decide +kernel
theorem dX6_walksBy_131 : decode cX6_walksBy 131 = .ok (.ifCond .ne 6, 3) := by decide +kernel
theorem dX6_walksBy_134 : decode cX6_walksBy 134 = .ok (.goto 82, 3) := by decide +kernel
theorem dX6_walksBy_137 : decode cX6_walksBy 137 = .ok (.iload 7, 2) := by decide +kernel
theorem dX6_walksBy_139 : decode cX6_walksBy 139 = .ok (.istore 4, 2) := by decide +kernel
theorem dX6_walksBy_141 : decode cX6_walksBy 141 = .ok (.aload_n 0, 1) := by decide +kernel
theorem dX6_walksBy_142 : decode cX6_walksBy 142 = .ok (.iload_n 1, 1) := by decide +kernel
theorem dX6_walksBy_143 : decode cX6_walksBy 143 = .ok (.iload 5, 2) := by decide +kernel
theorem dX6_walksBy_145 : decode cX6_walksBy 145 = .ok (.iconst 1, 1) := by decide +kernel
theorem dX6_walksBy_146 : decode cX6_walksBy 146 = .ok (.iadd, 1) := by decide +kernel
theorem dX6_walksBy_147 : decode cX6_walksBy 147 = .ok (.iload 7, 2) := by decide +kernel
theorem dX6_walksBy_149 : decode cX6_walksBy 149 = .ok (.aload_n 0, 1) := by decide +kernel
theorem dX6_walksBy_150 : decode cX6_walksBy 150 = .ok (.getfield 7, 3) := by decide +kernel
theorem dX6_walksBy_153 : decode cX6_walksBy 153 = .ok (.iconst 3, 1) := by decide +kernel
theorem dX6_walksBy_154 : decode cX6_walksBy 154 = .ok (.iaload, 1) := by decide +kernel
theorem dX6_walksBy_155 : decode cX6_walksBy 155 = .ok (.isub, 1) := by decide +kernel
theorem dX6_walksBy_156 : decode cX6_walksBy 156 = .ok (.invokevirtual 197, 3) := by decide +kernel
theorem dX6_walksBy_159 : decode cX6_walksBy 159 = .ok (.aload_n 0, 1) := by decide +kernel
theorem dX6_walksBy_160 : decode cX6_walksBy 160 = .ok (.getfield 7, 3) := by decide +kernel
theorem dX6_walksBy_163 : decode cX6_walksBy 163 = .ok (.iconst 4, 1) := by decide +kernel
theorem dX6_walksBy_164 : decode cX6_walksBy 164 = .ok (.iaload, 1) := by decide +kernel
theorem dX6_walksBy_165 : decode cX6_walksBy 165 = .ok (.if_icmp .ge 6, 3) := by decide +kernel
theorem dX6_walksBy_168 : decode cX6_walksBy 168 = .ok (.goto 48, 3) := by decide +kernel
theorem dX6_walksBy_171 : decode cX6_walksBy 171 = .ok (.aload_n 0, 1) := by decide +kernel
theorem dX6_walksBy_172 : decode cX6_walksBy 172 = .ok (.getfield 35, 3) := by decide +kernel
theorem dX6_walksBy_175 : decode cX6_walksBy 175 = .ok (.aload_n 0, 1) := by decide +kernel
theorem dX6_walksBy_176 : decode cX6_walksBy 176 = .ok (.getfield 194, 3) := by decide +kernel
theorem dX6_walksBy_179 : decode cX6_walksBy 179 = .ok (.iload 7, 2) := by decide +kernel
theorem dX6_walksBy_181 : decode cX6_walksBy 181 = .ok (.iastore, 1) := by decide +kernel
theorem dX6_walksBy_182 : decode cX6_walksBy 182 = .ok (.aload_n 0, 1) := by decide +kernel
theorem dX6_walksBy_183 : decode cX6_walksBy 183 = .ok (.dup, 1) := by decide +kernel
theorem dX6_walksBy_184 : decode cX6_walksBy 184 = .ok (.getfield 194, 3) := by decide +kernel
theorem dX6_walksBy_187 : decode cX6_walksBy 187 = .ok (.iconst 1, 1) := by decide +kernel
theorem dX6_walksBy_188 : decode cX6_walksBy 188 = .ok (.iadd, 1) := by decide +kernel
theorem dX6_walksBy_189 : decode cX6_walksBy 189 = .ok (.putfield 194, 3) := by decide +kernel
theorem dX6_walksBy_192 : decode cX6_walksBy 192 = .ok (.iconst 0, 1) := by decide +kernel
theorem dX6_walksBy_193 : decode cX6_walksBy 193 = .ok (.istore 8, 2) := by decide +kernel
theorem dX6_walksBy_195 : decode cX6_walksBy 195 = .ok (.iload 8, 2) := by decide +kernel
theorem dX6_walksBy_197 : decode cX6_walksBy 197 = .ok (.iload 5, 2) := by decide +kernel
theorem dX6_walksBy_199 : decode cX6_walksBy 199 = .ok (.if_icmp .gt 17, 3) := by decide +kernel
theorem dX6_walksBy_202 : decode cX6_walksBy 202 = .ok (.aload_n 0, 1) := by decide +kernel
theorem dX6_walksBy_203 : decode cX6_walksBy 203 = .ok (.getfield 32, 3) := by decide +kernel
theorem dX6_walksBy_206 : decode cX6_walksBy 206 = .ok (.iload 8, 2) := by decide +kernel
theorem dX6_walksBy_208 : decode cX6_walksBy 208 = .ok (.iconst 0, 1) := by decide +kernel
theorem dX6_walksBy_209 : decode cX6_walksBy 209 = .ok (.bastore, 1) := by decide +kernel
theorem dX6_walksBy_210 : decode cX6_walksBy 210 = .ok (.iinc 8 1, 3) := by decide +kernel
theorem dX6_walksBy_213 : decode cX6_walksBy 213 = .ok (.goto (-18), 3) := by decide +kernel
theorem dX6_walksBy_216 : decode cX6_walksBy 216 = .ok (.iinc 5 1, 3) := by decide +kernel
theorem dX6_walksBy_219 : decode cX6_walksBy 219 = .ok (.goto (-208), 3) := by decide +kernel
theorem dX6_walksBy_222 : decode cX6_walksBy 222 = .ok (.return_, 1) := by decide +kernel
theorem dX6_walks_0 : decode cX6_walks 0 = .ok (.aload_n 0, 1) := by decide +kernel
theorem dX6_walks_1 : decode cX6_walks 1 = .ok (.iload_n 1, 1) := by decide +kernel
theorem dX6_walks_2 : decode cX6_walks 2 = .ok (.aload_n 0, 1) := by decide +kernel
theorem dX6_walks_3 : decode cX6_walks 3 = .ok (.iload_n 1, 1) := by decide +kernel
theorem dX6_walks_4 : decode cX6_walks 4 = .ok (.bipush 7, 2) := by decide +kernel
theorem dX6_walks_6 : decode cX6_walks 6 = .ok (.invokevirtual 50, 3) := by decide +kernel
theorem dX6_walks_9 : decode cX6_walks 9 = .ok (.iconst (-1), 1) := by decide +kernel
theorem dX6_walks_10 : decode cX6_walks 10 = .ok (.invokevirtual 201, 3) := by decide +kernel
theorem dX6_walks_13 : decode cX6_walks 13 = .ok (.return_, 1) := by decide +kernel
theorem dX6_pointsNow_0 : decode cX6_pointsNow 0 = .ok (.aload_n 0, 1) := by decide +kernel
theorem dX6_pointsNow_1 : decode cX6_pointsNow 1 = .ok (.iload_n 1, 1) := by decide +kernel
theorem dX6_pointsNow_2 : decode cX6_pointsNow 2 = .ok (.invokevirtual 205, 3) := by decide +kernel
theorem dX6_pointsNow_5 : decode cX6_pointsNow 5 = .ok (.aload_n 0, 1) := by decide +kernel
theorem dX6_pointsNow_6 : decode cX6_pointsNow 6 = .ok (.iload_n 1, 1) := by decide +kernel
theorem dX6_pointsNow_7 : decode cX6_pointsNow 7 = .ok (.aload_n 0, 1) := by decide +kernel
theorem dX6_pointsNow_8 : decode cX6_pointsNow 8 = .ok (.iload_n 1, 1) := by decide +kernel
theorem dX6_pointsNow_9 : decode cX6_pointsNow 9 = .ok (.bipush 7, 2) := by decide +kernel
theorem dX6_pointsNow_11 : decode cX6_pointsNow 11 = .ok (.invokevirtual 50, 3) := by decide +kernel
theorem dX6_pointsNow_14 : decode cX6_pointsNow 14 = .ok (.aload_n 0, 1) := by decide +kernel
theorem dX6_pointsNow_15 : decode cX6_pointsNow 15 = .ok (.getfield 7, 3) := by decide +kernel
theorem dX6_pointsNow_18 : decode cX6_pointsNow 18 = .ok (.iconst 0, 1) := by decide +kernel
theorem dX6_pointsNow_19 : decode cX6_pointsNow 19 = .ok (.iaload, 1) := by decide +kernel
theorem dX6_pointsNow_20 : decode cX6_pointsNow 20 = .ok (.aload_n 0, 1) := by decide +kernel
theorem dX6_pointsNow_21 : decode cX6_pointsNow 21 = .ok (.getfield 7, 3) := by decide +kernel
theorem dX6_pointsNow_24 : decode cX6_pointsNow 24 = .ok (.iconst 3, 1) := by decide +kernel
theorem dX6_pointsNow_25 : decode cX6_pointsNow 25 = .ok (.iaload, 1) := by decide +kernel
theorem dX6_pointsNow_26 : decode cX6_pointsNow 26 = .ok (.isub, 1) := by decide +kernel
theorem dX6_pointsNow_27 : decode cX6_pointsNow 27 = .ok (.invokevirtual 197, 3) := by decide +kernel
theorem dX6_pointsNow_30 : decode cX6_pointsNow 30 = .ok (.ireturn, 1) := by decide +kernel
theorem dX6_weightOf_0 : decode cX6_weightOf 0 = .ok (.aload_n 0, 1) := by decide +kernel
theorem dX6_weightOf_1 : decode cX6_weightOf 1 = .ok (.iload_n 1, 1) := by decide +kernel
theorem dX6_weightOf_2 : decode cX6_weightOf 2 = .ok (.iconst 4, 1) := by decide +kernel
theorem dX6_weightOf_3 : decode cX6_weightOf 3 = .ok (.invokevirtual 50, 3) := by decide +kernel
theorem dX6_weightOf_6 : decode cX6_weightOf 6 = .ok (.iconst (-1), 1) := by decide +kernel
theorem dX6_weightOf_7 : decode cX6_weightOf 7 = .ok (.if_icmp .ne 12, 3) := by decide +kernel
theorem dX6_weightOf_10 : decode cX6_weightOf 10 = .ok (.aload_n 0, 1) := by decide +kernel
theorem dX6_weightOf_11 : decode cX6_weightOf 11 = .ok (.iload_n 1, 1) := by decide +kernel
theorem dX6_weightOf_12 : decode cX6_weightOf 12 = .ok (.iconst 1, 1) := by decide +kernel
theorem dX6_weightOf_13 : decode cX6_weightOf 13 = .ok (.invokevirtual 50, 3) := by decide +kernel
theorem dX6_weightOf_16 : decode cX6_weightOf 16 = .ok (.goto 9, 3) := by decide +kernel
theorem dX6_weightOf_19 : decode cX6_weightOf 19 = .ok (.aload_n 0, 1) := by decide +kernel
theorem dX6_weightOf_20 : decode cX6_weightOf 20 = .ok (.iload_n 1, 1) := by decide +kernel
theorem dX6_weightOf_21 : decode cX6_weightOf 21 = .ok (.iconst 4, 1) := by decide +kernel
theorem dX6_weightOf_22 : decode cX6_weightOf 22 = .ok (.invokevirtual 50, 3) := by decide +kernel
theorem dX6_weightOf_25 : decode cX6_weightOf 25 = .ok (.istore_n 2, 1) := by decide +kernel
theorem dX6_weightOf_26 : decode cX6_weightOf 26 = .ok (.aload_n 0, 1) := by decide +kernel
theorem dX6_weightOf_27 : decode cX6_weightOf 27 = .ok (.iload_n 1, 1) := by decide +kernel
theorem dX6_weightOf_28 : decode cX6_weightOf 28 = .ok (.iconst 0, 1) := by decide +kernel
theorem dX6_weightOf_29 : decode cX6_weightOf 29 = .ok (.invokevirtual 50, 3) := by decide +kernel
theorem dX6_weightOf_32 : decode cX6_weightOf 32 = .ok (.iconst 1, 1) := by decide +kernel
theorem dX6_weightOf_33 : decode cX6_weightOf 33 = .ok (.aload_n 0, 1) := by decide +kernel
theorem dX6_weightOf_34 : decode cX6_weightOf 34 = .ok (.getfield 7, 3) := by decide +kernel
theorem dX6_weightOf_37 : decode cX6_weightOf 37 = .ok (.iconst 0, 1) := by decide +kernel
theorem dX6_weightOf_38 : decode cX6_weightOf 38 = .ok (.iaload, 1) := by decide +kernel
theorem dX6_weightOf_39 : decode cX6_weightOf 39 = .ok (.iadd, 1) := by decide +kernel
theorem dX6_weightOf_40 : decode cX6_weightOf 40 = .ok (.iload_n 2, 1) := by decide +kernel
theorem dX6_weightOf_41 : decode cX6_weightOf 41 = .ok (.isub, 1) := by decide +kernel
theorem dX6_weightOf_42 : decode cX6_weightOf 42 = .ok (.imul, 1) := by decide +kernel
theorem dX6_weightOf_43 : decode cX6_weightOf 43 = .ok (.iconst 1, 1) := by decide +kernel
theorem dX6_weightOf_44 : decode cX6_weightOf 44 = .ok (.aload_n 0, 1) := by decide +kernel
theorem dX6_weightOf_45 : decode cX6_weightOf 45 = .ok (.iload_n 1, 1) := by decide +kernel
theorem dX6_weightOf_46 : decode cX6_weightOf 46 = .ok (.invokevirtual 208, 3) := by decide +kernel
theorem dX6_weightOf_49 : decode cX6_weightOf 49 = .ok (.iadd, 1) := by decide +kernel
theorem dX6_weightOf_50 : decode cX6_weightOf 50 = .ok (.imul, 1) := by decide +kernel
theorem dX6_weightOf_51 : decode cX6_weightOf 51 = .ok (.ireturn, 1) := by decide +kernel
theorem dX6_latesOf_0 : decode cX6_latesOf 0 = .ok (.aload_n 0, 1) := by decide +kernel
theorem dX6_latesOf_1 : decode cX6_latesOf 1 = .ok (.iload_n 1, 1) := by decide +kernel
theorem dX6_latesOf_2 : decode cX6_latesOf 2 = .ok (.bipush 6, 2) := by decide +kernel
theorem dX6_latesOf_4 : decode cX6_latesOf 4 = .ok (.invokevirtual 50, 3) := by decide +kernel
theorem dX6_latesOf_7 : decode cX6_latesOf 7 = .ok (.aload_n 0, 1) := by decide +kernel
theorem dX6_latesOf_8 : decode cX6_latesOf 8 = .ok (.getfield 7, 3) := by decide +kernel
theorem dX6_latesOf_11 : decode cX6_latesOf 11 = .ok (.iconst 0, 1) := by decide +kernel
theorem dX6_latesOf_12 : decode cX6_latesOf 12 = .ok (.iaload, 1) := by decide +kernel
theorem dX6_latesOf_13 : decode cX6_latesOf 13 = .ok (.bipush 30, 2) := by decide +kernel
theorem dX6_latesOf_15 : decode cX6_latesOf 15 = .ok (.idiv, 1) := by decide +kernel
theorem dX6_latesOf_16 : decode cX6_latesOf 16 = .ok (.if_icmp .ne 12, 3) := by decide +kernel
theorem dX6_latesOf_19 : decode cX6_latesOf 19 = .ok (.aload_n 0, 1) := by decide +kernel
theorem dX6_latesOf_20 : decode cX6_latesOf 20 = .ok (.iload_n 1, 1) := by decide +kernel
theorem dX6_latesOf_21 : decode cX6_latesOf 21 = .ok (.iconst 5, 1) := by decide +kernel
theorem dX6_latesOf_22 : decode cX6_latesOf 22 = .ok (.invokevirtual 50, 3) := by decide +kernel
theorem dX6_latesOf_25 : decode cX6_latesOf 25 = .ok (.goto 4, 3) := by decide +kernel
theorem dX6_latesOf_28 : decode cX6_latesOf 28 = .ok (.iconst 0, 1) := by decide +kernel
theorem dX6_latesOf_29 : decode cX6_latesOf 29 = .ok (.ireturn, 1) := by decide +kernel
theorem dX6_violationsOf_0 : decode cX6_violationsOf 0 = .ok (.aload_n 0, 1) := by decide +kernel
theorem dX6_violationsOf_1 : decode cX6_violationsOf 1 = .ok (.iload_n 1, 1) := by decide +kernel
theorem dX6_violationsOf_2 : decode cX6_violationsOf 2 = .ok (.invokevirtual 205, 3) := by decide +kernel
theorem dX6_violationsOf_5 : decode cX6_violationsOf 5 = .ok (.aload_n 0, 1) := by decide +kernel
theorem dX6_violationsOf_6 : decode cX6_violationsOf 6 = .ok (.getfield 194, 3) := by decide +kernel
theorem dX6_violationsOf_9 : decode cX6_violationsOf 9 = .ok (.ireturn, 1) := by decide +kernel
theorem dX6_of_0 : decode cX6_of 0 = .ok (.aload_n 0, 1) := by decide +kernel
theorem dX6_of_1 : decode cX6_of 1 = .ok (.aload_n 0, 1) := by decide +kernel
theorem dX6_of_2 : decode cX6_of 2 = .ok (.iload_n 1, 1) := by decide +kernel
theorem dX6_of_3 : decode cX6_of 3 = .ok (.invokevirtual 73, 3) := by decide +kernel
theorem dX6_of_6 : decode cX6_of 6 = .ok (.ifCond .eq 17, 3) := by decide +kernel
theorem dX6_of_9 : decode cX6_of 9 = .ok (.iload_n 2, 1) := by decide +kernel
theorem dX6_of_10 : decode cX6_of 10 = .ok (.iconst 0, 1) := by decide +kernel
theorem dX6_of_11 : decode cX6_of 11 = .ok (.bipush 9, 2) := by decide +kernel
theorem dX6_of_13 : decode cX6_of 13 = .ok (.invokestatic 42, 3) := by decide +kernel
theorem dX6_of_16 : decode cX6_of 16 = .ok (.ifCond .eq 7, 3) := by decide +kernel
theorem dX6_of_19 : decode cX6_of 19 = .ok (.iconst 0, 1) := by decide +kernel
theorem dX6_of_20 : decode cX6_of 20 = .ok (.goto 4, 3) := by decide +kernel
theorem dX6_of_23 : decode cX6_of 23 = .ok (.iconst 1, 1) := by decide +kernel
theorem dX6_of_24 : decode cX6_of 24 = .ok (.putfield 38, 3) := by decide +kernel
theorem dX6_of_27 : decode cX6_of 27 = .ok (.aload_n 0, 1) := by decide +kernel
theorem dX6_of_28 : decode cX6_of 28 = .ok (.getfield 38, 3) := by decide +kernel
theorem dX6_of_31 : decode cX6_of 31 = .ok (.ifCond .le 5, 3) := by decide +kernel
theorem dX6_of_34 : decode cX6_of 34 = .ok (.iconst 0, 1) := by decide +kernel
theorem dX6_of_35 : decode cX6_of 35 = .ok (.ireturn, 1) := by decide +kernel
theorem dX6_of_36 : decode cX6_of 36 = .ok (.iload_n 2, 1) := by decide +kernel
theorem dX6_of_37 : decode cX6_of 37 = .ok (.tableswitch 111 0 8 #[51, 58, 64, 72, 78, 84, 91, 98, 105], 51) := by decide +kernel
theorem dX6_of_88 : decode cX6_of 88 = .ok (.aload_n 0, 1) := by decide +kernel
theorem dX6_of_89 : decode cX6_of 89 = .ok (.iload_n 1, 1) := by decide +kernel
theorem dX6_of_90 : decode cX6_of 90 = .ok (.iconst 0, 1) := by decide +kernel
theorem dX6_of_91 : decode cX6_of 91 = .ok (.invokevirtual 50, 3) := by decide +kernel
theorem dX6_of_94 : decode cX6_of 94 = .ok (.ireturn, 1) := by decide +kernel
theorem dX6_of_95 : decode cX6_of 95 = .ok (.aload_n 0, 1) := by decide +kernel
theorem dX6_of_96 : decode cX6_of 96 = .ok (.iload_n 1, 1) := by decide +kernel
theorem dX6_of_97 : decode cX6_of 97 = .ok (.invokevirtual 208, 3) := by decide +kernel
theorem dX6_of_100 : decode cX6_of 100 = .ok (.ireturn, 1) := by decide +kernel
theorem dX6_of_101 : decode cX6_of 101 = .ok (.aload_n 0, 1) := by decide +kernel
theorem dX6_of_102 : decode cX6_of 102 = .ok (.iload_n 1, 1) := by decide +kernel
theorem dX6_of_103 : decode cX6_of 103 = .ok (.bipush 7, 2) := by decide +kernel
theorem dX6_of_105 : decode cX6_of 105 = .ok (.invokevirtual 50, 3) := by decide +kernel
theorem dX6_of_108 : decode cX6_of 108 = .ok (.ireturn, 1) := by decide +kernel
theorem dX6_of_109 : decode cX6_of 109 = .ok (.aload_n 0, 1) := by decide +kernel
theorem dX6_of_110 : decode cX6_of 110 = .ok (.iload_n 1, 1) := by decide +kernel
theorem dX6_of_111 : decode cX6_of 111 = .ok (.invokevirtual 211, 3) := by decide +kernel
theorem dX6_of_114 : decode cX6_of 114 = .ok (.ireturn, 1) := by decide +kernel
theorem dX6_of_115 : decode cX6_of 115 = .ok (.aload_n 0, 1) := by decide +kernel
theorem dX6_of_116 : decode cX6_of 116 = .ok (.iload_n 1, 1) := by decide +kernel
theorem dX6_of_117 : decode cX6_of 117 = .ok (.invokevirtual 214, 3) := by decide +kernel
theorem dX6_of_120 : decode cX6_of 120 = .ok (.ireturn, 1) := by decide +kernel
theorem dX6_of_121 : decode cX6_of 121 = .ok (.aload_n 0, 1) := by decide +kernel
theorem dX6_of_122 : decode cX6_of 122 = .ok (.iload_n 1, 1) := by decide +kernel
theorem dX6_of_123 : decode cX6_of 123 = .ok (.iconst 2, 1) := by decide +kernel
theorem dX6_of_124 : decode cX6_of 124 = .ok (.invokevirtual 50, 3) := by decide +kernel
theorem dX6_of_127 : decode cX6_of 127 = .ok (.ireturn, 1) := by decide +kernel
theorem dX6_of_128 : decode cX6_of 128 = .ok (.aload_n 0, 1) := by decide +kernel
theorem dX6_of_129 : decode cX6_of 129 = .ok (.iload_n 1, 1) := by decide +kernel
theorem dX6_of_130 : decode cX6_of 130 = .ok (.iconst 3, 1) := by decide +kernel
theorem dX6_of_131 : decode cX6_of 131 = .ok (.invokevirtual 50, 3) := by decide +kernel
theorem dX6_of_134 : decode cX6_of 134 = .ok (.ireturn, 1) := by decide +kernel
theorem dX6_of_135 : decode cX6_of 135 = .ok (.aload_n 0, 1) := by decide +kernel
theorem dX6_of_136 : decode cX6_of 136 = .ok (.iload_n 1, 1) := by decide +kernel
theorem dX6_of_137 : decode cX6_of 137 = .ok (.iconst 4, 1) := by decide +kernel
theorem dX6_of_138 : decode cX6_of 138 = .ok (.invokevirtual 50, 3) := by decide +kernel
theorem dX6_of_141 : decode cX6_of 141 = .ok (.ireturn, 1) := by decide +kernel
theorem dX6_of_142 : decode cX6_of 142 = .ok (.aload_n 0, 1) := by decide +kernel
theorem dX6_of_143 : decode cX6_of 143 = .ok (.iload_n 1, 1) := by decide +kernel
theorem dX6_of_144 : decode cX6_of 144 = .ok (.invokevirtual 217, 3) := by decide +kernel
theorem dX6_of_147 : decode cX6_of 147 = .ok (.ireturn, 1) := by decide +kernel
theorem dX6_of_148 : decode cX6_of 148 = .ok (.aload_n 0, 1) := by decide +kernel
theorem dX6_of_149 : decode cX6_of 149 = .ok (.iload_n 1, 1) := by decide +kernel
theorem dX6_of_150 : decode cX6_of 150 = .ok (.iconst 1, 1) := by decide +kernel
theorem dX6_of_151 : decode cX6_of 151 = .ok (.invokevirtual 50, 3) := by decide +kernel
theorem dX6_of_154 : decode cX6_of 154 = .ok (.ireturn, 1) := by decide +kernel
theorem dX6_count_0 : decode cX6_count 0 = .ok (.aload_n 0, 1) := by decide +kernel
theorem dX6_count_1 : decode cX6_count 1 = .ok (.iconst 0, 1) := by decide +kernel
theorem dX6_count_2 : decode cX6_count 2 = .ok (.putfield 38, 3) := by decide +kernel
theorem dX6_count_5 : decode cX6_count 5 = .ok (.iload_n 1, 1) := by decide +kernel
theorem dX6_count_6 : decode cX6_count 6 = .ok (.bipush 10, 2) := by decide +kernel
theorem dX6_count_8 : decode cX6_count 8 = .ok (.bipush 15, 2) := by decide +kernel
theorem dX6_count_10 : decode cX6_count 10 = .ok (.invokestatic 42, 3) := by decide +kernel
theorem dX6_count_13 : decode cX6_count 13 = .ok (.ifCond .eq 15, 3) := by decide +kernel
theorem dX6_count_16 : decode cX6_count 16 = .ok (.aload_n 0, 1) := by decide +kernel
theorem dX6_count_17 : decode cX6_count 17 = .ok (.getfield 7, 3) := by decide +kernel
theorem dX6_count_20 : decode cX6_count 20 = .ok (.iconst 3, 1) := by decide +kernel
theorem dX6_count_21 : decode cX6_count 21 = .ok (.iload_n 1, 1) := by decide +kernel
theorem dX6_count_22 : decode cX6_count 22 = .ok (.iadd, 1) := by decide +kernel
theorem dX6_count_23 : decode cX6_count 23 = .ok (.bipush 10, 2) := by decide +kernel
theorem dX6_count_25 : decode cX6_count 25 = .ok (.isub, 1) := by decide +kernel
theorem dX6_count_26 : decode cX6_count 26 = .ok (.iaload, 1) := by decide +kernel
theorem dX6_count_27 : decode cX6_count 27 = .ok (.ireturn, 1) := by decide +kernel
theorem dX6_count_28 : decode cX6_count 28 = .ok (.iload_n 1, 1) := by decide +kernel
theorem dX6_count_29 : decode cX6_count 29 = .ok (.tableswitch 57 0 3 #[31, 38, 45, 52], 31) := by decide +kernel
theorem dX6_count_60 : decode cX6_count 60 = .ok (.aload_n 0, 1) := by decide +kernel
theorem dX6_count_61 : decode cX6_count 61 = .ok (.getfield 7, 3) := by decide +kernel
theorem dX6_count_64 : decode cX6_count 64 = .ok (.iconst 2, 1) := by decide +kernel
theorem dX6_count_65 : decode cX6_count 65 = .ok (.iaload, 1) := by decide +kernel
theorem dX6_count_66 : decode cX6_count 66 = .ok (.ireturn, 1) := by decide +kernel
theorem dX6_count_67 : decode cX6_count 67 = .ok (.aload_n 0, 1) := by decide +kernel
theorem dX6_count_68 : decode cX6_count 68 = .ok (.getfield 7, 3) := by decide +kernel
theorem dX6_count_71 : decode cX6_count 71 = .ok (.iconst 0, 1) := by decide +kernel
theorem dX6_count_72 : decode cX6_count 72 = .ok (.iaload, 1) := by decide +kernel
theorem dX6_count_73 : decode cX6_count 73 = .ok (.ireturn, 1) := by decide +kernel
theorem dX6_count_74 : decode cX6_count 74 = .ok (.aload_n 0, 1) := by decide +kernel
theorem dX6_count_75 : decode cX6_count 75 = .ok (.getfield 7, 3) := by decide +kernel
theorem dX6_count_78 : decode cX6_count 78 = .ok (.iconst 1, 1) := by decide +kernel
theorem dX6_count_79 : decode cX6_count 79 = .ok (.iaload, 1) := by decide +kernel
theorem dX6_count_80 : decode cX6_count 80 = .ok (.ireturn, 1) := by decide +kernel
theorem dX6_count_81 : decode cX6_count 81 = .ok (.aload_n 0, 1) := by decide +kernel
theorem dX6_count_82 : decode cX6_count 82 = .ok (.getfield 108, 3) := by decide +kernel
theorem dX6_count_85 : decode cX6_count 85 = .ok (.ireturn, 1) := by decide +kernel
theorem dX6_count_86 : decode cX6_count 86 = .ok (.iconst (-1), 1) := by decide +kernel
theorem dX6_count_87 : decode cX6_count 87 = .ok (.ireturn, 1) := by decide +kernel
theorem dX6_isDay_0 : decode cX6_isDay 0 = .ok (.iload_n 0, 1) := by decide +kernel
theorem dX6_isDay_1 : decode cX6_isDay 1 = .ok (.iconst 0, 1) := by decide +kernel
theorem dX6_isDay_2 : decode cX6_isDay 2 = .ok (.sipush 1099, 3) := by decide +kernel
theorem dX6_isDay_5 : decode cX6_isDay 5 = .ok (.invokestatic 42, 3) := by decide +kernel
theorem dX6_isDay_8 : decode cX6_isDay 8 = .ok (.ireturn, 1) := by decide +kernel
theorem dX6_filed_0 : decode cX6_filed 0 = .ok (.aload_n 0, 1) := by decide +kernel
theorem dX6_filed_1 : decode cX6_filed 1 = .ok (.iconst 0, 1) := by decide +kernel
theorem dX6_filed_2 : decode cX6_filed 2 = .ok (.putfield 38, 3) := by decide +kernel
theorem dX6_filed_5 : decode cX6_filed 5 = .ok (.aload_n 0, 1) := by decide +kernel
theorem dX6_filed_6 : decode cX6_filed 6 = .ok (.iload_n 1, 1) := by decide +kernel
theorem dX6_filed_7 : decode cX6_filed 7 = .ok (.invokevirtual 73, 3) := by decide +kernel
theorem dX6_filed_10 : decode cX6_filed 10 = .ok (.ifCond .eq 28, 3) := by decide +kernel
theorem dX6_filed_13 : decode cX6_filed 13 = .ok (.iload_n 2, 1) := by decide +kernel
theorem dX6_filed_14 : decode cX6_filed 14 = .ok (.invokestatic 220, 3) := by decide +kernel
theorem dX6_filed_17 : decode cX6_filed 17 = .ok (.ifCond .eq 21, 3) := by decide +kernel
theorem dX6_filed_20 : decode cX6_filed 20 = .ok (.iload_n 3, 1) := by decide +kernel
theorem dX6_filed_21 : decode cX6_filed 21 = .ok (.iconst 0, 1) := by decide +kernel
theorem dX6_filed_22 : decode cX6_filed 22 = .ok (.iconst 1, 1) := by decide +kernel
theorem dX6_filed_23 : decode cX6_filed 23 = .ok (.invokestatic 42, 3) := by decide +kernel
theorem dX6_filed_26 : decode cX6_filed 26 = .ok (.ifCond .eq 12, 3) := by decide +kernel
theorem dX6_filed_29 : decode cX6_filed 29 = .ok (.aload_n 0, 1) := by decide +kernel
theorem dX6_filed_30 : decode cX6_filed 30 = .ok (.iload_n 1, 1) := by decide +kernel
theorem dX6_filed_31 : decode cX6_filed 31 = .ok (.iload_n 2, 1) := by decide +kernel
theorem dX6_filed_32 : decode cX6_filed 32 = .ok (.invokevirtual 53, 3) := by decide +kernel
theorem dX6_filed_35 : decode cX6_filed 35 = .ok (.ifCond .ne 5, 3) := by decide +kernel
theorem dX6_filed_38 : decode cX6_filed 38 = .ok (.iconst (-1), 1) := by decide +kernel
theorem dX6_filed_39 : decode cX6_filed 39 = .ok (.ireturn, 1) := by decide +kernel
theorem dX6_filed_40 : decode cX6_filed 40 = .ok (.iload_n 3, 1) := by decide +kernel
theorem dX6_filed_41 : decode cX6_filed 41 = .ok (.ifCond .ne 12, 3) := by decide +kernel
theorem dX6_filed_44 : decode cX6_filed 44 = .ok (.aload_n 0, 1) := by decide +kernel
theorem dX6_filed_45 : decode cX6_filed 45 = .ok (.iload_n 1, 1) := by decide +kernel
theorem dX6_filed_46 : decode cX6_filed 46 = .ok (.iload_n 2, 1) := by decide +kernel
theorem dX6_filed_47 : decode cX6_filed 47 = .ok (.invokevirtual 63, 3) := by decide +kernel
theorem dX6_filed_50 : decode cX6_filed 50 = .ok (.goto 9, 3) := by decide +kernel
theorem dX6_filed_53 : decode cX6_filed 53 = .ok (.aload_n 0, 1) := by decide +kernel
theorem dX6_filed_54 : decode cX6_filed 54 = .ok (.iload_n 1, 1) := by decide +kernel
theorem dX6_filed_55 : decode cX6_filed 55 = .ok (.iload_n 2, 1) := by decide +kernel
theorem dX6_filed_56 : decode cX6_filed 56 = .ok (.invokevirtual 70, 3) := by decide +kernel
theorem dX6_filed_59 : decode cX6_filed 59 = .ok (.ireturn, 1) := by decide +kernel
theorem dX6_failure_0 : decode cX6_failure 0 = .ok (.aload_n 0, 1) := by decide +kernel
theorem dX6_failure_1 : decode cX6_failure 1 = .ok (.iconst 0, 1) := by decide +kernel
theorem dX6_failure_2 : decode cX6_failure 2 = .ok (.putfield 38, 3) := by decide +kernel
theorem dX6_failure_5 : decode cX6_failure 5 = .ok (.aload_n 0, 1) := by decide +kernel
theorem dX6_failure_6 : decode cX6_failure 6 = .ok (.iload_n 1, 1) := by decide +kernel
theorem dX6_failure_7 : decode cX6_failure 7 = .ok (.iload_n 2, 1) := by decide +kernel
theorem dX6_failure_8 : decode cX6_failure 8 = .ok (.invokevirtual 102, 3) := by decide +kernel
theorem dX6_failure_11 : decode cX6_failure 11 = .ok (.ifCond .eq 12, 3) := by decide +kernel
theorem dX6_failure_14 : decode cX6_failure 14 = .ok (.iload_n 3, 1) := by decide +kernel
theorem dX6_failure_15 : decode cX6_failure 15 = .ok (.iconst 0, 1) := by decide +kernel
theorem dX6_failure_16 : decode cX6_failure 16 = .ok (.iconst 4, 1) := by decide +kernel
theorem dX6_failure_17 : decode cX6_failure 17 = .ok (.invokestatic 42, 3) := by decide +kernel
theorem dX6_failure_20 : decode cX6_failure 20 = .ok (.ifCond .ne 5, 3) := by decide +kernel
theorem dX6_failure_23 : decode cX6_failure 23 = .ok (.iconst (-1), 1) := by decide +kernel
theorem dX6_failure_24 : decode cX6_failure 24 = .ok (.ireturn, 1) := by decide +kernel
theorem dX6_failure_25 : decode cX6_failure 25 = .ok (.aload_n 0, 1) := by decide +kernel
theorem dX6_failure_26 : decode cX6_failure 26 = .ok (.iload_n 1, 1) := by decide +kernel
theorem dX6_failure_27 : decode cX6_failure 27 = .ok (.invokevirtual 205, 3) := by decide +kernel
theorem dX6_failure_30 : decode cX6_failure 30 = .ok (.iload_n 3, 1) := by decide +kernel
theorem dX6_failure_31 : decode cX6_failure 31 = .ok (.iconst 3, 1) := by decide +kernel
theorem dX6_failure_32 : decode cX6_failure 32 = .ok (.if_icmp .ge 23, 3) := by decide +kernel
theorem dX6_failure_35 : decode cX6_failure 35 = .ok (.aload_n 0, 1) := by decide +kernel
theorem dX6_failure_36 : decode cX6_failure 36 = .ok (.getfield 7, 3) := by decide +kernel
theorem dX6_failure_39 : decode cX6_failure 39 = .ok (.iload_n 1, 1) := by decide +kernel
theorem dX6_failure_40 : decode cX6_failure 40 = .ok (.bipush 8, 2) := by decide +kernel
theorem dX6_failure_42 : decode cX6_failure 42 = .ok (.iconst 3, 1) := by decide +kernel
theorem dX6_failure_43 : decode cX6_failure 43 = .ok (.iload_n 2, 1) := by decide +kernel
theorem dX6_failure_44 : decode cX6_failure 44 = .ok (.imul, 1) := by decide +kernel
theorem dX6_failure_45 : decode cX6_failure 45 = .ok (.iadd, 1) := by decide +kernel
theorem dX6_failure_46 : decode cX6_failure 46 = .ok (.iload_n 3, 1) := by decide +kernel
theorem dX6_failure_47 : decode cX6_failure 47 = .ok (.iadd, 1) := by decide +kernel
theorem dX6_failure_48 : decode cX6_failure 48 = .ok (.invokestatic 46, 3) := by decide +kernel
theorem dX6_failure_51 : decode cX6_failure 51 = .ok (.iaload, 1) := by decide +kernel
theorem dX6_failure_52 : decode cX6_failure 52 = .ok (.goto 34, 3) := by decide +kernel
theorem dX6_failure_55 : decode cX6_failure 55 = .ok (.iload_n 3, 1) := by decide +kernel
theorem dX6_failure_56 : decode cX6_failure 56 = .ok (.iconst 3, 1) := by decide +kernel
theorem dX6_failure_57 : decode cX6_failure 57 = .ok (.if_icmp .ne 15, 3) := by decide +kernel
theorem dX6_failure_60 : decode cX6_failure 60 = .ok (.aload_n 0, 1) := by decide +kernel
theorem dX6_failure_61 : decode cX6_failure 61 = .ok (.getfield 28, 3) := by decide +kernel
theorem dX6_failure_64 : decode cX6_failure 64 = .ok (.iload_n 2, 1) := by decide +kernel
theorem dX6_failure_65 : decode cX6_failure 65 = .ok (.baload, 1) := by decide +kernel
theorem dX6_failure_66 : decode cX6_failure 66 = .ok (.ifCond .eq 19, 3) := by decide +kernel
theorem dX6_failure_69 : decode cX6_failure 69 = .ok (.goto 12, 3) := by decide +kernel
theorem dX6_failure_72 : decode cX6_failure 72 = .ok (.aload_n 0, 1) := by decide +kernel
theorem dX6_failure_73 : decode cX6_failure 73 = .ok (.getfield 32, 3) := by decide +kernel
theorem dX6_failure_76 : decode cX6_failure 76 = .ok (.iload_n 2, 1) := by decide +kernel
theorem dX6_failure_77 : decode cX6_failure 77 = .ok (.baload, 1) := by decide +kernel
theorem dX6_failure_78 : decode cX6_failure 78 = .ok (.ifCond .eq 7, 3) := by decide +kernel
theorem dX6_failure_81 : decode cX6_failure 81 = .ok (.iconst 1, 1) := by decide +kernel
theorem dX6_failure_82 : decode cX6_failure 82 = .ok (.goto 4, 3) := by decide +kernel
theorem dX6_failure_85 : decode cX6_failure 85 = .ok (.iconst 0, 1) := by decide +kernel
theorem dX6_failure_86 : decode cX6_failure 86 = .ok (.ireturn, 1) := by decide +kernel
theorem dX6_violation_0 : decode cX6_violation 0 = .ok (.aload_n 0, 1) := by decide +kernel
theorem dX6_violation_1 : decode cX6_violation 1 = .ok (.iconst 0, 1) := by decide +kernel
theorem dX6_violation_2 : decode cX6_violation 2 = .ok (.putfield 38, 3) := by decide +kernel
theorem dX6_violation_5 : decode cX6_violation 5 = .ok (.aload_n 0, 1) := by decide +kernel
theorem dX6_violation_6 : decode cX6_violation 6 = .ok (.iload_n 1, 1) := by decide +kernel
theorem dX6_violation_7 : decode cX6_violation 7 = .ok (.invokevirtual 73, 3) := by decide +kernel
theorem dX6_violation_10 : decode cX6_violation 10 = .ok (.ifCond .ne 5, 3) := by decide +kernel
theorem dX6_violation_13 : decode cX6_violation 13 = .ok (.iconst (-1), 1) := by decide +kernel
theorem dX6_violation_14 : decode cX6_violation 14 = .ok (.ireturn, 1) := by decide +kernel
theorem dX6_violation_15 : decode cX6_violation 15 = .ok (.aload_n 0, 1) := by decide +kernel
theorem dX6_violation_16 : decode cX6_violation 16 = .ok (.iload_n 1, 1) := by decide +kernel
theorem dX6_violation_17 : decode cX6_violation 17 = .ok (.invokevirtual 205, 3) := by decide +kernel
theorem dX6_violation_20 : decode cX6_violation 20 = .ok (.iload_n 2, 1) := by decide +kernel
theorem dX6_violation_21 : decode cX6_violation 21 = .ok (.iconst 0, 1) := by decide +kernel
theorem dX6_violation_22 : decode cX6_violation 22 = .ok (.aload_n 0, 1) := by decide +kernel
theorem dX6_violation_23 : decode cX6_violation 23 = .ok (.getfield 194, 3) := by decide +kernel
theorem dX6_violation_26 : decode cX6_violation 26 = .ok (.iconst 1, 1) := by decide +kernel
theorem dX6_violation_27 : decode cX6_violation 27 = .ok (.isub, 1) := by decide +kernel
theorem dX6_violation_28 : decode cX6_violation 28 = .ok (.invokestatic 42, 3) := by decide +kernel
theorem dX6_violation_31 : decode cX6_violation 31 = .ok (.ifCond .eq 12, 3) := by decide +kernel
theorem dX6_violation_34 : decode cX6_violation 34 = .ok (.aload_n 0, 1) := by decide +kernel
theorem dX6_violation_35 : decode cX6_violation 35 = .ok (.getfield 35, 3) := by decide +kernel
theorem dX6_violation_38 : decode cX6_violation 38 = .ok (.iload_n 2, 1) := by decide +kernel
theorem dX6_violation_39 : decode cX6_violation 39 = .ok (.iaload, 1) := by decide +kernel
theorem dX6_violation_40 : decode cX6_violation 40 = .ok (.goto 4, 3) := by decide +kernel
theorem dX6_violation_43 : decode cX6_violation 43 = .ok (.iconst (-1), 1) := by decide +kernel
theorem dX6_violation_44 : decode cX6_violation 44 = .ok (.ireturn, 1) := by decide +kernel
theorem dX6_hole_0 : decode cX6_hole 0 = .ok (.aload_n 0, 1) := by decide +kernel
theorem dX6_hole_1 : decode cX6_hole 1 = .ok (.iconst 0, 1) := by decide +kernel
theorem dX6_hole_2 : decode cX6_hole 2 = .ok (.putfield 38, 3) := by decide +kernel
theorem dX6_hole_5 : decode cX6_hole 5 = .ok (.aload_n 0, 1) := by decide +kernel
theorem dX6_hole_6 : decode cX6_hole 6 = .ok (.iload_n 1, 1) := by decide +kernel
theorem dX6_hole_7 : decode cX6_hole 7 = .ok (.invokevirtual 73, 3) := by decide +kernel
theorem dX6_hole_10 : decode cX6_hole 10 = .ok (.ifCond .eq 22, 3) := by decide +kernel
theorem dX6_hole_13 : decode cX6_hole 13 = .ok (.iload_n 2, 1) := by decide +kernel
theorem dX6_hole_14 : decode cX6_hole 14 = .ok (.iconst 0, 1) := by decide +kernel
theorem dX6_hole_15 : decode cX6_hole 15 = .ok (.bipush 35, 2) := by decide +kernel
theorem dX6_hole_17 : decode cX6_hole 17 = .ok (.invokestatic 42, 3) := by decide +kernel
theorem dX6_hole_20 : decode cX6_hole 20 = .ok (.ifCond .eq 12, 3) := by decide +kernel
theorem dX6_hole_23 : decode cX6_hole 23 = .ok (.aload_n 0, 1) := by decide +kernel
theorem dX6_hole_24 : decode cX6_hole 24 = .ok (.iload_n 1, 1) := by decide +kernel
theorem dX6_hole_25 : decode cX6_hole 25 = .ok (.iload_n 2, 1) := by decide +kernel
theorem dX6_hole_26 : decode cX6_hole 26 = .ok (.invokevirtual 57, 3) := by decide +kernel
theorem dX6_hole_29 : decode cX6_hole 29 = .ok (.goto 4, 3) := by decide +kernel
theorem dX6_hole_32 : decode cX6_hole 32 = .ok (.iconst (-1), 1) := by decide +kernel
theorem dX6_hole_33 : decode cX6_hole 33 = .ok (.ireturn, 1) := by decide +kernel
theorem dX6_sumBut_0 : decode cX6_sumBut 0 = .ok (.iconst 0, 1) := by decide +kernel
theorem dX6_sumBut_1 : decode cX6_sumBut 1 = .ok (.istore_n 2, 1) := by decide +kernel
theorem dX6_sumBut_2 : decode cX6_sumBut 2 = .ok (.iconst 0, 1) := by decide +kernel
theorem dX6_sumBut_3 : decode cX6_sumBut 3 = .ok (.istore_n 3, 1) := by decide +kernel
theorem dX6_sumBut_4 : decode cX6_sumBut 4 = .ok (.iload_n 3, 1) := by decide +kernel
theorem dX6_sumBut_5 : decode cX6_sumBut 5 = .ok (.aload_n 0, 1) := by decide +kernel
theorem dX6_sumBut_6 : decode cX6_sumBut 6 = .ok (.getfield 7, 3) := by decide +kernel
theorem dX6_sumBut_9 : decode cX6_sumBut 9 = .ok (.iconst 2, 1) := by decide +kernel
theorem dX6_sumBut_10 : decode cX6_sumBut 10 = .ok (.iaload, 1) := by decide +kernel
theorem dX6_sumBut_11 : decode cX6_sumBut 11 = .ok (.if_icmp .ge 30, 3) := by decide +kernel
theorem dX6_sumBut_14 : decode cX6_sumBut 14 = .ok (.iload_n 2, 1) := by decide +kernel
theorem dX6_sumBut_15 : decode cX6_sumBut 15 = .ok (.iload_n 1, 1) := by decide +kernel
theorem dX6_sumBut_16 : decode cX6_sumBut 16 = .ok (.iload_n 3, 1) := by decide +kernel
theorem dX6_sumBut_17 : decode cX6_sumBut 17 = .ok (.ishr, 1) := by decide +kernel
theorem dX6_sumBut_18 : decode cX6_sumBut 18 = .ok (.iconst 1, 1) := by decide +kernel
theorem dX6_sumBut_19 : decode cX6_sumBut 19 = .ok (.iand, 1) := by decide +kernel
theorem dX6_sumBut_20 : decode cX6_sumBut 20 = .ok (.iconst 1, 1) := by decide +kernel
theorem dX6_sumBut_21 : decode cX6_sumBut 21 = .ok (.if_icmp .ne 7, 3) := by decide +kernel
theorem dX6_sumBut_24 : decode cX6_sumBut 24 = .ok (.iconst 0, 1) := by decide +kernel
theorem dX6_sumBut_25 : decode cX6_sumBut 25 = .ok (.goto 8, 3) := by decide +kernel
theorem dX6_sumBut_28 : decode cX6_sumBut 28 = .ok (.aload_n 0, 1) := by decide +kernel
theorem dX6_sumBut_29 : decode cX6_sumBut 29 = .ok (.iload_n 3, 1) := by decide +kernel
theorem dX6_sumBut_30 : decode cX6_sumBut 30 = .ok (.invokevirtual 217, 3) := by decide +kernel
theorem dX6_sumBut_33 : decode cX6_sumBut 33 = .ok (.iadd, 1) := by decide +kernel
theorem dX6_sumBut_34 : decode cX6_sumBut 34 = .ok (.istore_n 2, 1) := by decide +kernel
theorem dX6_sumBut_35 : decode cX6_sumBut 35 = .ok (.iinc 3 1, 3) := by decide +kernel
theorem dX6_sumBut_38 : decode cX6_sumBut 38 = .ok (.goto (-34), 3) := by decide +kernel
theorem dX6_sumBut_41 : decode cX6_sumBut 41 = .ok (.iload_n 2, 1) := by decide +kernel
theorem dX6_sumBut_42 : decode cX6_sumBut 42 = .ok (.ireturn, 1) := by decide +kernel
theorem dX6_lot_0 : decode cX6_lot 0 = .ok (.aload_n 0, 1) := by decide +kernel
theorem dX6_lot_1 : decode cX6_lot 1 = .ok (.iconst 0, 1) := by decide +kernel
theorem dX6_lot_2 : decode cX6_lot 2 = .ok (.putfield 38, 3) := by decide +kernel
theorem dX6_lot_5 : decode cX6_lot 5 = .ok (.iload_n 1, 1) := by decide +kernel
theorem dX6_lot_6 : decode cX6_lot 6 = .ok (.ifCond .lt 17, 3) := by decide +kernel
theorem dX6_lot_9 : decode cX6_lot 9 = .ok (.iload_n 2, 1) := by decide +kernel
theorem dX6_lot_10 : decode cX6_lot 10 = .ok (.iconst 1, 1) := by decide +kernel
theorem dX6_lot_11 : decode cX6_lot 11 = .ok (.aload_n 0, 1) := by decide +kernel
theorem dX6_lot_12 : decode cX6_lot 12 = .ok (.getfield 7, 3) := by decide +kernel
theorem dX6_lot_15 : decode cX6_lot 15 = .ok (.iconst 2, 1) := by decide +kernel
theorem dX6_lot_16 : decode cX6_lot 16 = .ok (.iaload, 1) := by decide +kernel
theorem dX6_lot_17 : decode cX6_lot 17 = .ok (.invokestatic 42, 3) := by decide +kernel
theorem dX6_lot_20 : decode cX6_lot 20 = .ok (.ifCond .ne 5, 3) := by decide +kernel
theorem dX6_lot_23 : decode cX6_lot 23 = .ok (.iconst (-1), 1) := by decide +kernel
theorem dX6_lot_24 : decode cX6_lot 24 = .ok (.ireturn, 1) := by decide +kernel
theorem dX6_lot_25 : decode cX6_lot 25 = .ok (.iload_n 1, 1) := by decide +kernel
theorem dX6_lot_26 : decode cX6_lot 26 = .ok (.i2l, 1) := by decide +kernel
theorem dX6_lot_27 : decode cX6_lot 27 = .ok (.lstore_n 3, 1) := by decide +kernel
theorem dX6_lot_28 : decode cX6_lot 28 = .ok (.iconst 0, 1) := by decide +kernel
theorem dX6_lot_29 : decode cX6_lot 29 = .ok (.istore 5, 2) := by decide +kernel
theorem dX6_lot_31 : decode cX6_lot 31 = .ok (.iconst 0, 1) := by decide +kernel
theorem dX6_lot_32 : decode cX6_lot 32 = .ok (.istore 6, 2) := by decide +kernel
theorem dX6_lot_34 : decode cX6_lot 34 = .ok (.iconst 0, 1) := by decide +kernel
theorem dX6_lot_35 : decode cX6_lot 35 = .ok (.istore 7, 2) := by decide +kernel
theorem dX6_lot_37 : decode cX6_lot 37 = .ok (.iload 7, 2) := by decide +kernel
theorem dX6_lot_39 : decode cX6_lot 39 = .ok (.iload_n 2, 1) := by decide +kernel
theorem dX6_lot_40 : decode cX6_lot 40 = .ok (.if_icmp .ge 94, 3) := by decide +kernel
theorem dX6_lot_43 : decode cX6_lot 43 = .ok (.ldc2_w 223, 3) := by decide +kernel
theorem dX6_lot_46 : decode cX6_lot 46 = .ok (.lload_n 3, 1) := by decide +kernel
theorem dX6_lot_47 : decode cX6_lot 47 = .ok (.lmul, 1) := by decide +kernel
theorem dX6_lot_48 : decode cX6_lot 48 = .ok (.ldc2_w 225, 3) := by decide +kernel
theorem dX6_lot_51 : decode cX6_lot 51 = .ok (.ladd, 1) := by decide +kernel
theorem dX6_lot_52 : decode cX6_lot 52 = .ok (.ldc2_w 227, 3) := by decide +kernel
theorem dX6_lot_55 : decode cX6_lot 55 = .ok (.lrem, 1) := by decide +kernel
theorem dX6_lot_56 : decode cX6_lot 56 = .ok (.lstore_n 3, 1) := by decide +kernel
theorem dX6_lot_57 : decode cX6_lot 57 = .ok (.lload_n 3, 1) := by decide +kernel
theorem dX6_lot_58 : decode cX6_lot 58 = .ok (.aload_n 0, 1) := by decide +kernel
theorem dX6_lot_59 : decode cX6_lot 59 = .ok (.iload 5, 2) := by decide +kernel
theorem dX6_lot_61 : decode cX6_lot 61 = .ok (.invokevirtual 229, 3) := by decide +kernel
theorem dX6_lot_64 : decode cX6_lot 64 = .ok (.i2l, 1) := by decide +kernel
theorem dX6_lot_65 : decode cX6_lot 65 = .ok (.lrem, 1) := by decide +kernel
theorem dX6_lot_66 : decode cX6_lot 66 = .ok (.l2i, 1) := by decide +kernel
theorem dX6_lot_67 : decode cX6_lot 67 = .ok (.istore 8, 2) := by decide +kernel
theorem dX6_lot_69 : decode cX6_lot 69 = .ok (.iconst (-1), 1) := by decide +kernel
theorem dX6_lot_70 : decode cX6_lot 70 = .ok (.istore 9, 2) := by decide +kernel
theorem dX6_lot_72 : decode cX6_lot 72 = .ok (.iload 8, 2) := by decide +kernel
theorem dX6_lot_74 : decode cX6_lot 74 = .ok (.ifCond .lt 35, 3) := by decide +kernel
theorem dX6_lot_77 : decode cX6_lot 77 = .ok (.iinc 9 1, 3) := by decide +kernel
theorem dX6_lot_80 : decode cX6_lot 80 = .ok (.iload 8, 2) := by decide +kernel
theorem dX6_lot_82 : decode cX6_lot 82 = .ok (.iload 5, 2) := by decide +kernel
theorem dX6_lot_84 : decode cX6_lot 84 = .ok (.iload 9, 2) := by decide +kernel
theorem dX6_lot_86 : decode cX6_lot 86 = .ok (.ishr, 1) := by decide +kernel
theorem dX6_lot_87 : decode cX6_lot 87 = .ok (.iconst 1, 1) := by decide +kernel
theorem dX6_lot_88 : decode cX6_lot 88 = .ok (.iand, 1) := by decide +kernel
theorem dX6_lot_89 : decode cX6_lot 89 = .ok (.iconst 1, 1) := by decide +kernel
theorem dX6_lot_90 : decode cX6_lot 90 = .ok (.if_icmp .ne 7, 3) := by decide +kernel
theorem dX6_lot_93 : decode cX6_lot 93 = .ok (.iconst 0, 1) := by decide +kernel
theorem dX6_lot_94 : decode cX6_lot 94 = .ok (.goto 9, 3) := by decide +kernel
theorem dX6_lot_97 : decode cX6_lot 97 = .ok (.aload_n 0, 1) := by decide +kernel
theorem dX6_lot_98 : decode cX6_lot 98 = .ok (.iload 9, 2) := by decide +kernel
theorem dX6_lot_100 : decode cX6_lot 100 = .ok (.invokevirtual 217, 3) := by decide +kernel
theorem dX6_lot_103 : decode cX6_lot 103 = .ok (.isub, 1) := by decide +kernel
theorem dX6_lot_104 : decode cX6_lot 104 = .ok (.istore 8, 2) := by decide +kernel
theorem dX6_lot_106 : decode cX6_lot 106 = .ok (.goto (-34), 3) := by decide +kernel
theorem dX6_lot_109 : decode cX6_lot 109 = .ok (.iload 5, 2) := by decide +kernel
theorem dX6_lot_111 : decode cX6_lot 111 = .ok (.iconst 1, 1) := by decide +kernel
theorem dX6_lot_112 : decode cX6_lot 112 = .ok (.iload 9, 2) := by decide +kernel
theorem dX6_lot_114 : decode cX6_lot 114 = .ok (.ishl, 1) := by decide +kernel
theorem dX6_lot_115 : decode cX6_lot 115 = .ok (.ior, 1) := by decide +kernel
theorem dX6_lot_116 : decode cX6_lot 116 = .ok (.istore 5, 2) := by decide +kernel
theorem dX6_lot_118 : decode cX6_lot 118 = .ok (.bipush 10, 2) := by decide +kernel
theorem dX6_lot_120 : decode cX6_lot 120 = .ok (.iload 6, 2) := by decide +kernel
theorem dX6_lot_122 : decode cX6_lot 122 = .ok (.imul, 1) := by decide +kernel
theorem dX6_lot_123 : decode cX6_lot 123 = .ok (.iload 9, 2) := by decide +kernel
theorem dX6_lot_125 : decode cX6_lot 125 = .ok (.iadd, 1) := by decide +kernel
theorem dX6_lot_126 : decode cX6_lot 126 = .ok (.istore 6, 2) := by decide +kernel
theorem dX6_lot_128 : decode cX6_lot 128 = .ok (.iinc 7 1, 3) := by decide +kernel
theorem dX6_lot_131 : decode cX6_lot 131 = .ok (.goto (-94), 3) := by decide +kernel
theorem dX6_lot_134 : decode cX6_lot 134 = .ok (.iload 6, 2) := by decide +kernel
theorem dX6_lot_136 : decode cX6_lot 136 = .ok (.ireturn, 1) := by decide +kernel
theorem dX6_divisor_0 : decode cX6_divisor 0 = .ok (.iload_n 0, 1) := by decide +kernel
theorem dX6_divisor_1 : decode cX6_divisor 1 = .ok (.istore_n 2, 1) := by decide +kernel
theorem dX6_divisor_2 : decode cX6_divisor 2 = .ok (.iload_n 1, 1) := by decide +kernel
theorem dX6_divisor_3 : decode cX6_divisor 3 = .ok (.istore_n 3, 1) := by decide +kernel
theorem dX6_divisor_4 : decode cX6_divisor 4 = .ok (.iload_n 3, 1) := by decide +kernel
theorem dX6_divisor_5 : decode cX6_divisor 5 = .ok (.ifCond .eq 16, 3) := by decide +kernel
theorem dX6_divisor_8 : decode cX6_divisor 8 = .ok (.iload_n 2, 1) := by decide +kernel
theorem dX6_divisor_9 : decode cX6_divisor 9 = .ok (.iload_n 3, 1) := by decide +kernel
theorem dX6_divisor_10 : decode cX6_divisor 10 = .ok (.irem, 1) := by decide +kernel
theorem dX6_divisor_11 : decode cX6_divisor 11 = .ok (.istore 4, 2) := by decide +kernel
theorem dX6_divisor_13 : decode cX6_divisor 13 = .ok (.iload_n 3, 1) := by decide +kernel
theorem dX6_divisor_14 : decode cX6_divisor 14 = .ok (.istore_n 2, 1) := by decide +kernel
theorem dX6_divisor_15 : decode cX6_divisor 15 = .ok (.iload 4, 2) := by decide +kernel
theorem dX6_divisor_17 : decode cX6_divisor 17 = .ok (.istore_n 3, 1) := by decide +kernel
theorem dX6_divisor_18 : decode cX6_divisor 18 = .ok (.goto (-14), 3) := by decide +kernel
theorem dX6_divisor_21 : decode cX6_divisor 21 = .ok (.iload_n 2, 1) := by decide +kernel
theorem dX6_divisor_22 : decode cX6_divisor 22 = .ok (.ireturn, 1) := by decide +kernel
theorem dX6_chance_0 : decode cX6_chance 0 = .ok (.aload_n 0, 1) := by decide +kernel
theorem dX6_chance_1 : decode cX6_chance 1 = .ok (.iconst 0, 1) := by decide +kernel
theorem dX6_chance_2 : decode cX6_chance 2 = .ok (.putfield 38, 3) := by decide +kernel
theorem dX6_chance_5 : decode cX6_chance 5 = .ok (.aload_n 0, 1) := by decide +kernel
theorem dX6_chance_6 : decode cX6_chance 6 = .ok (.iload_n 1, 1) := by decide +kernel
theorem dX6_chance_7 : decode cX6_chance 7 = .ok (.invokevirtual 73, 3) := by decide +kernel
theorem dX6_chance_10 : decode cX6_chance 10 = .ok (.ifCond .ne 5, 3) := by decide +kernel
theorem dX6_chance_13 : decode cX6_chance 13 = .ok (.iconst (-1), 1) := by decide +kernel
theorem dX6_chance_14 : decode cX6_chance 14 = .ok (.ireturn, 1) := by decide +kernel
theorem dX6_chance_15 : decode cX6_chance 15 = .ok (.aload_n 0, 1) := by decide +kernel
theorem dX6_chance_16 : decode cX6_chance 16 = .ok (.iload_n 1, 1) := by decide +kernel
theorem dX6_chance_17 : decode cX6_chance 17 = .ok (.invokevirtual 217, 3) := by decide +kernel
theorem dX6_chance_20 : decode cX6_chance 20 = .ok (.istore_n 3, 1) := by decide +kernel
theorem dX6_chance_21 : decode cX6_chance 21 = .ok (.aload_n 0, 1) := by decide +kernel
theorem dX6_chance_22 : decode cX6_chance 22 = .ok (.iconst 0, 1) := by decide +kernel
theorem dX6_chance_23 : decode cX6_chance 23 = .ok (.invokevirtual 229, 3) := by decide +kernel
theorem dX6_chance_26 : decode cX6_chance 26 = .ok (.istore 4, 2) := by decide +kernel
theorem dX6_chance_28 : decode cX6_chance 28 = .ok (.iload_n 3, 1) := by decide +kernel
theorem dX6_chance_29 : decode cX6_chance 29 = .ok (.iload 4, 2) := by decide +kernel
theorem dX6_chance_31 : decode cX6_chance 31 = .ok (.invokestatic 232, 3) := by decide +kernel
theorem dX6_chance_34 : decode cX6_chance 34 = .ok (.istore 5, 2) := by decide +kernel
theorem dX6_chance_36 : decode cX6_chance 36 = .ok (.iload_n 2, 1) := by decide +kernel
theorem dX6_chance_37 : decode cX6_chance 37 = .ok (.ifCond .eq 11, 3) := by decide +kernel
theorem dX6_chance_40 : decode cX6_chance 40 = .ok (.iload 4, 2) := by decide +kernel
theorem dX6_chance_42 : decode cX6_chance 42 = .ok (.iload 5, 2) := by decide +kernel
theorem dX6_chance_44 : decode cX6_chance 44 = .ok (.idiv, 1) := by decide +kernel
theorem dX6_chance_45 : decode cX6_chance 45 = .ok (.goto 7, 3) := by decide +kernel
theorem dX6_chance_48 : decode cX6_chance 48 = .ok (.iload_n 3, 1) := by decide +kernel
theorem dX6_chance_49 : decode cX6_chance 49 = .ok (.iload 5, 2) := by decide +kernel
theorem dX6_chance_51 : decode cX6_chance 51 = .ok (.idiv, 1) := by decide +kernel
theorem dX6_chance_52 : decode cX6_chance 52 = .ok (.ireturn, 1) := by decide +kernel
theorem dX6_thereAt_0 : decode cX6_thereAt 0 = .ok (.iconst 0, 1) := by decide +kernel
theorem dX6_thereAt_1 : decode cX6_thereAt 1 = .ok (.istore 4, 2) := by decide +kernel
theorem dX6_thereAt_3 : decode cX6_thereAt 3 = .ok (.iconst 0, 1) := by decide +kernel
theorem dX6_thereAt_4 : decode cX6_thereAt 4 = .ok (.istore 5, 2) := by decide +kernel
theorem dX6_thereAt_6 : decode cX6_thereAt 6 = .ok (.iload 5, 2) := by decide +kernel
theorem dX6_thereAt_8 : decode cX6_thereAt 8 = .ok (.aload_n 0, 1) := by decide +kernel
theorem dX6_thereAt_9 : decode cX6_thereAt 9 = .ok (.getfield 7, 3) := by decide +kernel
theorem dX6_thereAt_12 : decode cX6_thereAt 12 = .ok (.iconst 2, 1) := by decide +kernel
theorem dX6_thereAt_13 : decode cX6_thereAt 13 = .ok (.iaload, 1) := by decide +kernel
theorem dX6_thereAt_14 : decode cX6_thereAt 14 = .ok (.if_icmp .ge 44, 3) := by decide +kernel
theorem dX6_thereAt_17 : decode cX6_thereAt 17 = .ok (.iload 4, 2) := by decide +kernel
theorem dX6_thereAt_19 : decode cX6_thereAt 19 = .ok (.aload_n 0, 1) := by decide +kernel
theorem dX6_thereAt_20 : decode cX6_thereAt 20 = .ok (.iload 5, 2) := by decide +kernel
theorem dX6_thereAt_22 : decode cX6_thereAt 22 = .ok (.sipush 188, 3) := by decide +kernel
theorem dX6_thereAt_25 : decode cX6_thereAt 25 = .ok (.iload_n 1, 1) := by decide +kernel
theorem dX6_thereAt_26 : decode cX6_thereAt 26 = .ok (.iadd, 1) := by decide +kernel
theorem dX6_thereAt_27 : decode cX6_thereAt 27 = .ok (.invokevirtual 50, 3) := by decide +kernel
theorem dX6_thereAt_30 : decode cX6_thereAt 30 = .ok (.bipush 10, 2) := by decide +kernel
theorem dX6_thereAt_32 : decode cX6_thereAt 32 = .ok (.iload_n 2, 1) := by decide +kernel
theorem dX6_thereAt_33 : decode cX6_thereAt 33 = .ok (.imul, 1) := by decide +kernel
theorem dX6_thereAt_34 : decode cX6_thereAt 34 = .ok (.iload_n 3, 1) := by decide +kernel
theorem dX6_thereAt_35 : decode cX6_thereAt 35 = .ok (.iadd, 1) := by decide +kernel
theorem dX6_thereAt_36 : decode cX6_thereAt 36 = .ok (.iconst 1, 1) := by decide +kernel
theorem dX6_thereAt_37 : decode cX6_thereAt 37 = .ok (.iadd, 1) := by decide +kernel
theorem dX6_thereAt_38 : decode cX6_thereAt 38 = .ok (.if_icmp .ne 10, 3) := by decide +kernel
theorem dX6_thereAt_41 : decode cX6_thereAt 41 = .ok (.iconst 1, 1) := by decide +kernel
theorem dX6_thereAt_42 : decode cX6_thereAt 42 = .ok (.iload 5, 2) := by decide +kernel
theorem dX6_thereAt_44 : decode cX6_thereAt 44 = .ok (.ishl, 1) := by decide +kernel
theorem dX6_thereAt_45 : decode cX6_thereAt 45 = .ok (.goto 4, 3) := by decide +kernel
theorem dX6_thereAt_48 : decode cX6_thereAt 48 = .ok (.iconst 0, 1) := by decide +kernel
theorem dX6_thereAt_49 : decode cX6_thereAt 49 = .ok (.ior, 1) := by decide +kernel
theorem dX6_thereAt_50 : decode cX6_thereAt 50 = .ok (.istore 4, 2) := by decide +kernel
theorem dX6_thereAt_52 : decode cX6_thereAt 52 = .ok (.iinc 5 1, 3) := by decide +kernel
theorem dX6_thereAt_55 : decode cX6_thereAt 55 = .ok (.goto (-49), 3) := by decide +kernel
theorem dX6_thereAt_58 : decode cX6_thereAt 58 = .ok (.iload 4, 2) := by decide +kernel
theorem dX6_thereAt_60 : decode cX6_thereAt 60 = .ok (.ireturn, 1) := by decide +kernel
theorem dX6_bits_0 : decode cX6_bits 0 = .ok (.iconst 0, 1) := by decide +kernel
theorem dX6_bits_1 : decode cX6_bits 1 = .ok (.istore_n 1, 1) := by decide +kernel
theorem dX6_bits_2 : decode cX6_bits 2 = .ok (.iload_n 0, 1) := by decide +kernel
theorem dX6_bits_3 : decode cX6_bits 3 = .ok (.istore_n 2, 1) := by decide +kernel
theorem dX6_bits_4 : decode cX6_bits 4 = .ok (.iload_n 2, 1) := by decide +kernel
theorem dX6_bits_5 : decode cX6_bits 5 = .ok (.ifCond .eq 15, 3) := by decide +kernel
theorem dX6_bits_8 : decode cX6_bits 8 = .ok (.iinc 1 1, 3) := by decide +kernel
theorem dX6_bits_11 : decode cX6_bits 11 = .ok (.iload_n 2, 1) := by decide +kernel
theorem dX6_bits_12 : decode cX6_bits 12 = .ok (.iload_n 2, 1) := by decide +kernel
theorem dX6_bits_13 : decode cX6_bits 13 = .ok (.iconst 1, 1) := by decide +kernel
theorem dX6_bits_14 : decode cX6_bits 14 = .ok (.isub, 1) := by decide +kernel
theorem dX6_bits_15 : decode cX6_bits 15 = .ok (.iand, 1) := by decide +kernel
theorem dX6_bits_16 : decode cX6_bits 16 = .ok (.istore_n 2, 1) := by decide +kernel
theorem dX6_bits_17 : decode cX6_bits 17 = .ok (.goto (-13), 3) := by decide +kernel
theorem dX6_bits_20 : decode cX6_bits 20 = .ok (.iload_n 1, 1) := by decide +kernel
theorem dX6_bits_21 : decode cX6_bits 21 = .ok (.ireturn, 1) := by decide +kernel
theorem dX6_bestPlace_0 : decode cX6_bestPlace 0 = .ok (.iconst (-1), 1) := by decide +kernel
theorem dX6_bestPlace_1 : decode cX6_bestPlace 1 = .ok (.istore_n 3, 1) := by decide +kernel
theorem dX6_bestPlace_2 : decode cX6_bestPlace 2 = .ok (.iconst 0, 1) := by decide +kernel
theorem dX6_bestPlace_3 : decode cX6_bestPlace 3 = .ok (.istore 4, 2) := by decide +kernel
theorem dX6_bestPlace_5 : decode cX6_bestPlace 5 = .ok (.iconst 0, 1) := by decide +kernel
theorem dX6_bestPlace_6 : decode cX6_bestPlace 6 = .ok (.istore 5, 2) := by decide +kernel
theorem dX6_bestPlace_8 : decode cX6_bestPlace 8 = .ok (.iload 5, 2) := by decide +kernel
theorem dX6_bestPlace_10 : decode cX6_bestPlace 10 = .ok (.bipush 10, 2) := by decide +kernel
theorem dX6_bestPlace_12 : decode cX6_bestPlace 12 = .ok (.if_icmp .ge 52, 3) := by decide +kernel
theorem dX6_bestPlace_15 : decode cX6_bestPlace 15 = .ok (.aload_n 0, 1) := by decide +kernel
theorem dX6_bestPlace_16 : decode cX6_bestPlace 16 = .ok (.iload_n 1, 1) := by decide +kernel
theorem dX6_bestPlace_17 : decode cX6_bestPlace 17 = .ok (.iload_n 2, 1) := by decide +kernel
theorem dX6_bestPlace_18 : decode cX6_bestPlace 18 = .ok (.iload 5, 2) := by decide +kernel

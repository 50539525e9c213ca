theorem dX5_init_5 : decode cX5_init 5 = .ok (.new 7, 3) := by decide +kernel
theorem dX5_init_8 : decode cX5_init 8 = .ok (.dup, 1) := by decide +kernel
theorem dX5_init_9 : decode cX5_init 9 = .ok (.invokespecial 9, 3) := by decide +kernel
theorem dX5_init_12 : decode cX5_init 12 = .ok (.putfield 10, 3) := by decide +kernel
theorem dX5_init_15 : decode cX5_init 15 = .ok (.aload_n 0, 1) := by decide +kernel
theorem dX5_init_16 : decode cX5_init 16 = .ok (.new 7, 3) := by decide +kernel
theorem dX5_init_19 : decode cX5_init 19 = .ok (.dup, 1) := by decide +kernel
theorem dX5_init_20 : decode cX5_init 20 = .ok (.invokespecial 9, 3) := by decide +kernel
theorem dX5_init_23 : decode cX5_init 23 = .ok (.putfield 16, 3) := by decide +kernel
theorem dX5_init_26 : decode cX5_init 26 = .ok (.aload_n 0, 1) := by decide +kernel
theorem dX5_init_27 : decode cX5_init 27 = .ok (.new 19, 3) := by decide +kernel
theorem dX5_init_30 : decode cX5_init 30 = .ok (.dup, 1) := by decide +kernel
theorem dX5_init_31 : decode cX5_init 31 = .ok (.invokespecial 21, 3) := by decide +kernel
theorem dX5_init_34 : decode cX5_init 34 = .ok (.putfield 22, 3) := by decide +kernel
theorem dX5_init_37 : decode cX5_init 37 = .ok (.aload_n 0, 1) := by decide +kernel
theorem dX5_init_38 : decode cX5_init 38 = .ok (.new 26, 3) := by decide +kernel
theorem dX5_init_41 : decode cX5_init 41 = .ok (.dup, 1) := by decide +kernel
theorem dX5_init_42 : decode cX5_init 42 = .ok (.invokespecial 28, 3) := by decide +kernel
theorem dX5_init_45 : decode cX5_init 45 = .ok (.putfield 29, 3) := by decide +kernel
theorem dX5_init_48 : decode cX5_init 48 = .ok (.aload_n 0, 1) := by decide +kernel
theorem dX5_init_49 : decode cX5_init 49 = .ok (.new 33, 3) := by decide +kernel
theorem dX5_init_52 : decode cX5_init 52 = .ok (.dup, 1) := by decide +kernel
theorem dX5_init_53 : decode cX5_init 53 = .ok (.aload_n 0, 1) := by decide +kernel
theorem dX5_init_54 : decode cX5_init 54 = .ok (.getfield 29, 3) := by decide +kernel
theorem dX5_init_57 : decode cX5_init 57 = .ok (.invokespecial 35, 3) := by decide +kernel
theorem dX5_init_60 : decode cX5_init 60 = .ok (.putfield 38, 3) := by decide +kernel
theorem dX5_init_63 : decode cX5_init 63 = .ok (.aload_n 0, 1) := by decide +kernel
theorem dX5_init_64 : decode cX5_init 64 = .ok (.bipush 6, 2) := by decide +kernel
theorem dX5_init_66 : decode cX5_init 66 = .ok (.newarray .int, 2) := by decide +kernel
theorem dX5_init_68 : decode cX5_init 68 = .ok (.putfield 42, 3) := by decide +kernel
theorem dX5_init_71 : decode cX5_init 71 = .ok (.aload_n 0, 1) := by decide +kernel
theorem dX5_init_72 : decode cX5_init 72 = .ok (.iconst 0, 1) := by decide +kernel
theorem dX5_init_73 : decode cX5_init 73 = .ok (.putfield 46, 3) := by decide +kernel
theorem dX5_init_76 : decode cX5_init 76 = .ok (.return_, 1) := by decide +kernel
theorem dX5_feed_0 : decode cX5_feed 0 = .ok (.aload_n 0, 1) := by decide +kernel
theorem dX5_feed_1 : decode cX5_feed 1 = .ok (.getfield 29, 3) := by decide +kernel
theorem dX5_feed_4 : decode cX5_feed 4 = .ok (.invokevirtual 50, 3) := by decide +kernel
theorem dX5_feed_7 : decode cX5_feed 7 = .ok (.ifCond .ne 5, 3) := by decide +kernel
theorem dX5_feed_10 : decode cX5_feed 10 = .ok (.iconst (-1), 1) := by decide +kernel
theorem dX5_feed_11 : decode cX5_feed 11 = .ok (.ireturn, 1) := by decide +kernel
theorem dX5_feed_12 : decode cX5_feed 12 = .ok (.aload_n 0, 1) := by decide +kernel
theorem dX5_feed_13 : decode cX5_feed 13 = .ok (.getfield 29, 3) := by decide +kernel
theorem dX5_feed_16 : decode cX5_feed 16 = .ok (.iload_n 1, 1) := by decide +kernel
theorem dX5_feed_17 : decode cX5_feed 17 = .ok (.invokevirtual 54, 3) := by decide +kernel
theorem dX5_feed_20 : decode cX5_feed 20 = .ok (.aload_n 0, 1) := by decide +kernel
theorem dX5_feed_21 : decode cX5_feed 21 = .ok (.getfield 29, 3) := by decide +kernel
theorem dX5_feed_24 : decode cX5_feed 24 = .ok (.iload_n 2, 1) := by decide +kernel
theorem dX5_feed_25 : decode cX5_feed 25 = .ok (.invokevirtual 54, 3) := by decide +kernel
theorem dX5_feed_28 : decode cX5_feed 28 = .ok (.aload_n 0, 1) := by decide +kernel
theorem dX5_feed_29 : decode cX5_feed 29 = .ok (.getfield 29, 3) := by decide +kernel
theorem dX5_feed_32 : decode cX5_feed 32 = .ok (.iload_n 3, 1) := by decide +kernel
theorem dX5_feed_33 : decode cX5_feed 33 = .ok (.invokevirtual 54, 3) := by decide +kernel
theorem dX5_feed_36 : decode cX5_feed 36 = .ok (.aload_n 0, 1) := by decide +kernel
theorem dX5_feed_37 : decode cX5_feed 37 = .ok (.getfield 29, 3) := by decide +kernel
theorem dX5_feed_40 : decode cX5_feed 40 = .ok (.iload 4, 2) := by decide +kernel
theorem dX5_feed_42 : decode cX5_feed 42 = .ok (.invokevirtual 54, 3) := by decide +kernel
theorem dX5_feed_45 : decode cX5_feed 45 = .ok (.aload_n 0, 1) := by decide +kernel
theorem dX5_feed_46 : decode cX5_feed 46 = .ok (.getfield 29, 3) := by decide +kernel
theorem dX5_feed_49 : decode cX5_feed 49 = .ok (.iload 5, 2) := by decide +kernel
theorem dX5_feed_51 : decode cX5_feed 51 = .ok (.invokevirtual 54, 3) := by decide +kernel
theorem dX5_feed_54 : decode cX5_feed 54 = .ok (.aload_n 0, 1) := by decide +kernel
theorem dX5_feed_55 : decode cX5_feed 55 = .ok (.getfield 29, 3) := by decide +kernel
theorem dX5_feed_58 : decode cX5_feed 58 = .ok (.getfield 58, 3) := by decide +kernel
theorem dX5_feed_61 : decode cX5_feed 61 = .ok (.ireturn, 1) := by decide +kernel
theorem dX5_end_0 : decode cX5_end 0 = .ok (.iload_n 1, 1) := by decide +kernel
theorem dX5_end_1 : decode cX5_end 1 = .ok (.ifCond .lt 14, 3) := by decide +kernel
theorem dX5_end_4 : decode cX5_end 4 = .ok (.iload_n 1, 1) := by decide +kernel
theorem dX5_end_5 : decode cX5_end 5 = .ok (.aload_n 0, 1) := by decide +kernel
theorem dX5_end_6 : decode cX5_end 6 = .ok (.getfield 29, 3) := by decide +kernel
theorem dX5_end_9 : decode cX5_end 9 = .ok (.getfield 58, 3) := by decide +kernel
theorem dX5_end_12 : decode cX5_end 12 = .ok (.if_icmp .le 5, 3) := by decide +kernel
theorem dX5_end_15 : decode cX5_end 15 = .ok (.iconst 0, 1) := by decide +kernel
theorem dX5_end_16 : decode cX5_end 16 = .ok (.ireturn, 1) := by decide +kernel
theorem dX5_end_17 : decode cX5_end 17 = .ok (.aload_n 0, 1) := by decide +kernel
theorem dX5_end_18 : decode cX5_end 18 = .ok (.getfield 29, 3) := by decide +kernel
theorem dX5_end_21 : decode cX5_end 21 = .ok (.iload_n 1, 1) := by decide +kernel
theorem dX5_end_22 : decode cX5_end 22 = .ok (.putfield 58, 3) := by decide +kernel
theorem dX5_end_25 : decode cX5_end 25 = .ok (.iconst 1, 1) := by decide +kernel
theorem dX5_end_26 : decode cX5_end 26 = .ok (.ireturn, 1) := by decide +kernel
theorem dX5_tell_0 : decode cX5_tell 0 = .ok (.aload_n 0, 1) := by decide +kernel
theorem dX5_tell_1 : decode cX5_tell 1 = .ok (.getfield 16, 3) := by decide +kernel
theorem dX5_tell_4 : decode cX5_tell 4 = .ok (.aload_n 0, 1) := by decide +kernel
theorem dX5_tell_5 : decode cX5_tell 5 = .ok (.getfield 10, 3) := by decide +kernel
theorem dX5_tell_8 : decode cX5_tell 8 = .ok (.invokevirtual 61, 3) := by decide +kernel
theorem dX5_tell_11 : decode cX5_tell 11 = .ok (.aload_n 0, 1) := by decide +kernel
theorem dX5_tell_12 : decode cX5_tell 12 = .ok (.getfield 38, 3) := by decide +kernel
theorem dX5_tell_15 : decode cX5_tell 15 = .ok (.aload_n 0, 1) := by decide +kernel
theorem dX5_tell_16 : decode cX5_tell 16 = .ok (.getfield 10, 3) := by decide +kernel
theorem dX5_tell_19 : decode cX5_tell 19 = .ok (.invokevirtual 65, 3) := by decide +kernel
theorem dX5_tell_22 : decode cX5_tell 22 = .ok (.istore_n 1, 1) := by decide +kernel
theorem dX5_tell_23 : decode cX5_tell 23 = .ok (.aload_n 0, 1) := by decide +kernel
theorem dX5_tell_24 : decode cX5_tell 24 = .ok (.getfield 29, 3) := by decide +kernel
theorem dX5_tell_27 : decode cX5_tell 27 = .ok (.iconst 0, 1) := by decide +kernel
theorem dX5_tell_28 : decode cX5_tell 28 = .ok (.putfield 58, 3) := by decide +kernel
theorem dX5_tell_31 : decode cX5_tell 31 = .ok (.aload_n 0, 1) := by decide +kernel
theorem dX5_tell_32 : decode cX5_tell 32 = .ok (.aload_n 0, 1) := by decide +kernel
theorem dX5_tell_33 : decode cX5_tell 33 = .ok (.getfield 38, 3) := by decide +kernel
theorem dX5_tell_36 : decode cX5_tell 36 = .ok (.getfield 69, 3) := by decide +kernel
theorem dX5_tell_39 : decode cX5_tell 39 = .ok (.putfield 46, 3) := by decide +kernel
theorem dX5_tell_42 : decode cX5_tell 42 = .ok (.aload_n 0, 1) := by decide +kernel
theorem dX5_tell_43 : decode cX5_tell 43 = .ok (.getfield 46, 3) := by decide +kernel
theorem dX5_tell_46 : decode cX5_tell 46 = .ok (.ifCond .ne 5, 3) := by decide +kernel
theorem dX5_tell_49 : decode cX5_tell 49 = .ok (.iload_n 1, 1) := by decide +kernel
theorem dX5_tell_50 : decode cX5_tell 50 = .ok (.ireturn, 1) := by decide +kernel
theorem dX5_tell_51 : decode cX5_tell 51 = .ok (.aload_n 0, 1) := by decide +kernel
theorem dX5_tell_52 : decode cX5_tell 52 = .ok (.getfield 10, 3) := by decide +kernel
theorem dX5_tell_55 : decode cX5_tell 55 = .ok (.astore_n 2, 1) := by decide +kernel
theorem dX5_tell_56 : decode cX5_tell 56 = .ok (.aload_n 0, 1) := by decide +kernel
theorem dX5_tell_57 : decode cX5_tell 57 = .ok (.aload_n 0, 1) := by decide +kernel
theorem dX5_tell_58 : decode cX5_tell 58 = .ok (.getfield 16, 3) := by decide +kernel
theorem dX5_tell_61 : decode cX5_tell 61 = .ok (.putfield 10, 3) := by decide +kernel
theorem dX5_tell_64 : decode cX5_tell 64 = .ok (.aload_n 0, 1) := by decide +kernel
theorem dX5_tell_65 : decode cX5_tell 65 = .ok (.aload_n 2, 1) := by decide +kernel
theorem dX5_tell_66 : decode cX5_tell 66 = .ok (.putfield 16, 3) := by decide +kernel
theorem dX5_tell_69 : decode cX5_tell 69 = .ok (.iconst (-1), 1) := by decide +kernel
theorem dX5_tell_70 : decode cX5_tell 70 = .ok (.ireturn, 1) := by decide +kernel
theorem dX5_fault_0 : decode cX5_fault 0 = .ok (.aload_n 0, 1) := by decide +kernel
theorem dX5_fault_1 : decode cX5_fault 1 = .ok (.getfield 46, 3) := by decide +kernel
theorem dX5_fault_4 : decode cX5_fault 4 = .ok (.ireturn, 1) := by decide +kernel
theorem dX5_athlete_0 : decode cX5_athlete 0 = .ok (.aload_n 0, 1) := by decide +kernel
theorem dX5_athlete_1 : decode cX5_athlete 1 = .ok (.getfield 10, 3) := by decide +kernel
theorem dX5_athlete_4 : decode cX5_athlete 4 = .ok (.iload_n 1, 1) := by decide +kernel
theorem dX5_athlete_5 : decode cX5_athlete 5 = .ok (.invokevirtual 72, 3) := by decide +kernel
theorem dX5_athlete_8 : decode cX5_athlete 8 = .ok (.ireturn, 1) := by decide +kernel
theorem dX5_set_0 : decode cX5_set 0 = .ok (.aload_n 0, 1) := by decide +kernel
theorem dX5_set_1 : decode cX5_set 1 = .ok (.getfield 10, 3) := by decide +kernel
theorem dX5_set_4 : decode cX5_set 4 = .ok (.iload_n 1, 1) := by decide +kernel
theorem dX5_set_5 : decode cX5_set 5 = .ok (.iload_n 2, 1) := by decide +kernel
theorem dX5_set_6 : decode cX5_set 6 = .ok (.invokevirtual 76, 3) := by decide +kernel
theorem dX5_set_9 : decode cX5_set 9 = .ok (.ireturn, 1) := by decide +kernel
theorem dX5_at_0 : decode cX5_at 0 = .ok (.aload_n 0, 1) := by decide +kernel
theorem dX5_at_1 : decode cX5_at 1 = .ok (.getfield 10, 3) := by decide +kernel
theorem dX5_at_4 : decode cX5_at 4 = .ok (.iload_n 1, 1) := by decide +kernel
theorem dX5_at_5 : decode cX5_at 5 = .ok (.iload_n 2, 1) := by decide +kernel
theorem dX5_at_6 : decode cX5_at 6 = .ok (.invokevirtual 80, 3) := by decide +kernel
theorem dX5_at_9 : decode cX5_at 9 = .ok (.ireturn, 1) := by decide +kernel
theorem dX5_file_0 : decode cX5_file 0 = .ok (.aload_n 0, 1) := by decide +kernel
theorem dX5_file_1 : decode cX5_file 1 = .ok (.getfield 10, 3) := by decide +kernel
theorem dX5_file_4 : decode cX5_file 4 = .ok (.iload_n 1, 1) := by decide +kernel
theorem dX5_file_5 : decode cX5_file 5 = .ok (.iload_n 2, 1) := by decide +kernel
theorem dX5_file_6 : decode cX5_file 6 = .ok (.iload_n 3, 1) := by decide +kernel
theorem dX5_file_7 : decode cX5_file 7 = .ok (.iload 4, 2) := by decide +kernel
theorem dX5_file_9 : decode cX5_file 9 = .ok (.iload 5, 2) := by decide +kernel
theorem dX5_file_11 : decode cX5_file 11 = .ok (.invokevirtual 84, 3) := by decide +kernel
theorem dX5_file_14 : decode cX5_file 14 = .ok (.ireturn, 1) := by decide +kernel
theorem dX5_test_0 : decode cX5_test 0 = .ok (.aload_n 0, 1) := by decide +kernel
theorem dX5_test_1 : decode cX5_test 1 = .ok (.getfield 10, 3) := by decide +kernel
theorem dX5_test_4 : decode cX5_test 4 = .ok (.iload_n 1, 1) := by decide +kernel
theorem dX5_test_5 : decode cX5_test 5 = .ok (.iload_n 2, 1) := by decide +kernel
theorem dX5_test_6 : decode cX5_test 6 = .ok (.iload_n 3, 1) := by decide +kernel
theorem dX5_test_7 : decode cX5_test 7 = .ok (.invokevirtual 88, 3) := by decide +kernel
theorem dX5_test_10 : decode cX5_test 10 = .ok (.ireturn, 1) := by decide +kernel
theorem dX5_appeal_0 : decode cX5_appeal 0 = .ok (.aload_n 0, 1) := by decide +kernel
theorem dX5_appeal_1 : decode cX5_appeal 1 = .ok (.getfield 10, 3) := by decide +kernel
theorem dX5_appeal_4 : decode cX5_appeal 4 = .ok (.iload_n 1, 1) := by decide +kernel
theorem dX5_appeal_5 : decode cX5_appeal 5 = .ok (.iload_n 2, 1) := by decide +kernel
theorem dX5_appeal_6 : decode cX5_appeal 6 = .ok (.invokevirtual 92, 3) := by decide +kernel
theorem dX5_appeal_9 : decode cX5_appeal 9 = .ok (.ireturn, 1) := by decide +kernel
theorem dX5_count_0 : decode cX5_count 0 = .ok (.iload_n 1, 1) := by decide +kernel
theorem dX5_count_1 : decode cX5_count 1 = .ok (.tableswitch 63 0 3 #[31, 39, 47, 55], 31) := by decide +kernel
theorem dX5_count_32 : decode cX5_count 32 = .ok (.aload_n 0, 1) := by decide +kernel
theorem dX5_count_33 : decode cX5_count 33 = .ok (.getfield 10, 3) := by decide +kernel
theorem dX5_count_36 : decode cX5_count 36 = .ok (.getfield 95, 3) := by decide +kernel
theorem dX5_count_39 : decode cX5_count 39 = .ok (.ireturn, 1) := by decide +kernel
theorem dX5_count_40 : decode cX5_count 40 = .ok (.aload_n 0, 1) := by decide +kernel
theorem dX5_count_41 : decode cX5_count 41 = .ok (.getfield 10, 3) := by decide +kernel
theorem dX5_count_44 : decode cX5_count 44 = .ok (.getfield 98, 3) := by decide +kernel
theorem dX5_count_47 : decode cX5_count 47 = .ok (.ireturn, 1) := by decide +kernel
theorem dX5_count_48 : decode cX5_count 48 = .ok (.aload_n 0, 1) := by decide +kernel
theorem dX5_count_49 : decode cX5_count 49 = .ok (.getfield 10, 3) := by decide +kernel
theorem dX5_count_52 : decode cX5_count 52 = .ok (.getfield 101, 3) := by decide +kernel
theorem dX5_count_55 : decode cX5_count 55 = .ok (.ireturn, 1) := by decide +kernel
theorem dX5_count_56 : decode cX5_count 56 = .ok (.aload_n 0, 1) := by decide +kernel
theorem dX5_count_57 : decode cX5_count 57 = .ok (.getfield 29, 3) := by decide +kernel
theorem dX5_count_60 : decode cX5_count 60 = .ok (.getfield 58, 3) := by decide +kernel
theorem dX5_count_63 : decode cX5_count 63 = .ok (.ireturn, 1) := by decide +kernel
theorem dX5_count_64 : decode cX5_count 64 = .ok (.aload_n 0, 1) := by decide +kernel
theorem dX5_count_65 : decode cX5_count 65 = .ok (.getfield 10, 3) := by decide +kernel
theorem dX5_count_68 : decode cX5_count 68 = .ok (.iload_n 1, 1) := by decide +kernel
theorem dX5_count_69 : decode cX5_count 69 = .ok (.bipush 10, 2) := by decide +kernel
theorem dX5_count_71 : decode cX5_count 71 = .ok (.if_icmp .ge 7, 3) := by decide +kernel
theorem dX5_count_74 : decode cX5_count 74 = .ok (.iconst (-1), 1) := by decide +kernel
theorem dX5_count_75 : decode cX5_count 75 = .ok (.goto 7, 3) := by decide +kernel
theorem dX5_count_78 : decode cX5_count 78 = .ok (.iload_n 1, 1) := by decide +kernel
theorem dX5_count_79 : decode cX5_count 79 = .ok (.bipush 10, 2) := by decide +kernel
theorem dX5_count_81 : decode cX5_count 81 = .ok (.isub, 1) := by decide +kernel
theorem dX5_count_82 : decode cX5_count 82 = .ok (.invokevirtual 104, 3) := by decide +kernel
theorem dX5_count_85 : decode cX5_count 85 = .ok (.ireturn, 1) := by decide +kernel
theorem dX5_of_0 : decode cX5_of 0 = .ok (.aload_n 0, 1) := by decide +kernel
theorem dX5_of_1 : decode cX5_of 1 = .ok (.getfield 10, 3) := by decide +kernel
theorem dX5_of_4 : decode cX5_of 4 = .ok (.iload_n 1, 1) := by decide +kernel
theorem dX5_of_5 : decode cX5_of 5 = .ok (.invokevirtual 107, 3) := by decide +kernel
theorem dX5_of_8 : decode cX5_of 8 = .ok (.astore_n 3, 1) := by decide +kernel
theorem dX5_of_9 : decode cX5_of 9 = .ok (.aload_n 3, 1) := by decide +kernel
theorem dX5_of_10 : decode cX5_of 10 = .ok (.ifnonnull 13, 3) := by decide +kernel
theorem dX5_of_13 : decode cX5_of 13 = .ok (.new 111, 3) := by decide +kernel
theorem dX5_of_16 : decode cX5_of 16 = .ok (.dup, 1) := by decide +kernel
theorem dX5_of_17 : decode cX5_of 17 = .ok (.ldc 113, 2) := by decide +kernel
theorem dX5_of_19 : decode cX5_of 19 = .ok (.invokespecial 115, 3) := by decide +kernel
theorem dX5_of_22 : decode cX5_of 22 = .ok (.athrow, 1) := by decide +kernel
theorem dX5_of_23 : decode cX5_of 23 = .ok (.iload_n 2, 1) := by decide +kernel
theorem dX5_of_24 : decode cX5_of 24 = .ok (.tableswitch 109 0 9 #[56, 61, 67, 72, 78, 83, 88, 93, 98, 104], 56) := by decide +kernel
theorem dX5_of_80 : decode cX5_of 80 = .ok (.aload_n 3, 1) := by decide +kernel
theorem dX5_of_81 : decode cX5_of 81 = .ok (.getfield 118, 3) := by decide +kernel
theorem dX5_of_84 : decode cX5_of 84 = .ok (.ireturn, 1) := by decide +kernel
theorem dX5_of_85 : decode cX5_of 85 = .ok (.aload_n 0, 1) := by decide +kernel
theorem dX5_of_86 : decode cX5_of 86 = .ok (.aload_n 3, 1) := by decide +kernel
theorem dX5_of_87 : decode cX5_of 87 = .ok (.invokevirtual 123, 3) := by decide +kernel
theorem dX5_of_90 : decode cX5_of 90 = .ok (.ireturn, 1) := by decide +kernel
theorem dX5_of_91 : decode cX5_of 91 = .ok (.aload_n 3, 1) := by decide +kernel
theorem dX5_of_92 : decode cX5_of 92 = .ok (.getfield 127, 3) := by decide +kernel
theorem dX5_of_95 : decode cX5_of 95 = .ok (.ireturn, 1) := by decide +kernel
theorem dX5_of_96 : decode cX5_of 96 = .ok (.aload_n 0, 1) := by decide +kernel
theorem dX5_of_97 : decode cX5_of 97 = .ok (.aload_n 3, 1) := by decide +kernel
theorem dX5_of_98 : decode cX5_of 98 = .ok (.invokevirtual 130, 3) := by decide +kernel
theorem dX5_of_101 : decode cX5_of 101 = .ok (.ireturn, 1) := by decide +kernel
theorem dX5_of_102 : decode cX5_of 102 = .ok (.aload_n 3, 1) := by decide +kernel
theorem dX5_of_103 : decode cX5_of 103 = .ok (.getfield 133, 3) := by decide +kernel
theorem dX5_of_106 : decode cX5_of 106 = .ok (.ireturn, 1) := by decide +kernel
theorem dX5_of_107 : decode cX5_of 107 = .ok (.aload_n 3, 1) := by decide +kernel
theorem dX5_of_108 : decode cX5_of 108 = .ok (.getfield 136, 3) := by decide +kernel
theorem dX5_of_111 : decode cX5_of 111 = .ok (.ireturn, 1) := by decide +kernel
theorem dX5_of_112 : decode cX5_of 112 = .ok (.aload_n 3, 1) := by decide +kernel
theorem dX5_of_113 : decode cX5_of 113 = .ok (.getfield 139, 3) := by decide +kernel
theorem dX5_of_116 : decode cX5_of 116 = .ok (.ireturn, 1) := by decide +kernel
theorem dX5_of_117 : decode cX5_of 117 = .ok (.aload_n 3, 1) := by decide +kernel
theorem dX5_of_118 : decode cX5_of 118 = .ok (.getfield 142, 3) := by decide +kernel
theorem dX5_of_121 : decode cX5_of 121 = .ok (.ireturn, 1) := by decide +kernel
theorem dX5_of_122 : decode cX5_of 122 = .ok (.aload_n 0, 1) := by decide +kernel
theorem dX5_of_123 : decode cX5_of 123 = .ok (.aload_n 3, 1) := by decide +kernel
theorem dX5_of_124 : decode cX5_of 124 = .ok (.invokevirtual 145, 3) := by decide +kernel
theorem dX5_of_127 : decode cX5_of 127 = .ok (.ireturn, 1) := by decide +kernel
theorem dX5_of_128 : decode cX5_of 128 = .ok (.aload_n 3, 1) := by decide +kernel
theorem dX5_of_129 : decode cX5_of 129 = .ok (.getfield 148, 3) := by decide +kernel
theorem dX5_of_132 : decode cX5_of 132 = .ok (.ireturn, 1) := by decide +kernel
theorem dX5_of_133 : decode cX5_of 133 = .ok (.new 111, 3) := by decide +kernel
theorem dX5_of_136 : decode cX5_of 136 = .ok (.dup, 1) := by decide +kernel
theorem dX5_of_137 : decode cX5_of 137 = .ok (.ldc 151, 2) := by decide +kernel
theorem dX5_of_139 : decode cX5_of 139 = .ok (.invokespecial 115, 3) := by decide +kernel
theorem dX5_of_142 : decode cX5_of 142 = .ok (.athrow, 1) := by decide +kernel
theorem dX5_filed_0 : decode cX5_filed 0 = .ok (.aload_n 0, 1) := by decide +kernel
theorem dX5_filed_1 : decode cX5_filed 1 = .ok (.getfield 10, 3) := by decide +kernel
theorem dX5_filed_4 : decode cX5_filed 4 = .ok (.iload_n 1, 1) := by decide +kernel
theorem dX5_filed_5 : decode cX5_filed 5 = .ok (.invokevirtual 107, 3) := by decide +kernel
theorem dX5_filed_8 : decode cX5_filed 8 = .ok (.astore 4, 2) := by decide +kernel
theorem dX5_filed_10 : decode cX5_filed 10 = .ok (.aload 4, 2) := by decide +kernel
theorem dX5_filed_12 : decode cX5_filed 12 = .ok (.ifnull 10, 3) := by decide +kernel
theorem dX5_filed_15 : decode cX5_filed 15 = .ok (.iload_n 2, 1) := by decide +kernel
theorem dX5_filed_16 : decode cX5_filed 16 = .ok (.invokestatic 153, 3) := by decide +kernel
theorem dX5_filed_19 : decode cX5_filed 19 = .ok (.ifCond .ne 5, 3) := by decide +kernel
theorem dX5_filed_22 : decode cX5_filed 22 = .ok (.iconst (-1), 1) := by decide +kernel
theorem dX5_filed_23 : decode cX5_filed 23 = .ok (.ireturn, 1) := by decide +kernel
theorem dX5_filed_24 : decode cX5_filed 24 = .ok (.aload 4, 2) := by decide +kernel
theorem dX5_filed_26 : decode cX5_filed 26 = .ok (.getfield 157, 3) := by decide +kernel
theorem dX5_filed_29 : decode cX5_filed 29 = .ok (.iload_n 2, 1) := by decide +kernel
theorem dX5_filed_30 : decode cX5_filed 30 = .ok (.iaload, 1) := by decide +kernel
theorem dX5_filed_31 : decode cX5_filed 31 = .ok (.istore 5, 2) := by decide +kernel
theorem dX5_filed_33 : decode cX5_filed 33 = .ok (.iload 5, 2) := by decide +kernel
theorem dX5_filed_35 : decode cX5_filed 35 = .ok (.ifCond .ne 5, 3) := by decide +kernel
theorem dX5_filed_38 : decode cX5_filed 38 = .ok (.iconst (-1), 1) := by decide +kernel
theorem dX5_filed_39 : decode cX5_filed 39 = .ok (.ireturn, 1) := by decide +kernel
theorem dX5_filed_40 : decode cX5_filed 40 = .ok (.iload_n 3, 1) := by decide +kernel
theorem dX5_filed_41 : decode cX5_filed 41 = .ok (.lookupswitch 39 #[(0, 27), (1, 33)], 27) := by decide +kernel
theorem dX5_filed_68 : decode cX5_filed 68 = .ok (.iload 5, 2) := by decide +kernel
theorem dX5_filed_70 : decode cX5_filed 70 = .ok (.invokestatic 160, 3) := by decide +kernel
theorem dX5_filed_73 : decode cX5_filed 73 = .ok (.ireturn, 1) := by decide +kernel
theorem dX5_filed_74 : decode cX5_filed 74 = .ok (.iload 5, 2) := by decide +kernel
theorem dX5_filed_76 : decode cX5_filed 76 = .ok (.invokestatic 163, 3) := by decide +kernel
theorem dX5_filed_79 : decode cX5_filed 79 = .ok (.ireturn, 1) := by decide +kernel
theorem dX5_filed_80 : decode cX5_filed 80 = .ok (.iconst (-1), 1) := by decide +kernel
theorem dX5_filed_81 : decode cX5_filed 81 = .ok (.ireturn, 1) := by decide +kernel
theorem dX5_failure_0 : decode cX5_failure 0 = .ok (.aload_n 0, 1) := by decide +kernel
theorem dX5_failure_1 : decode cX5_failure 1 = .ok (.getfield 10, 3) := by decide +kernel
theorem dX5_failure_4 : decode cX5_failure 4 = .ok (.iload_n 1, 1) := by decide +kernel
theorem dX5_failure_5 : decode cX5_failure 5 = .ok (.invokevirtual 107, 3) := by decide +kernel
theorem dX5_failure_8 : decode cX5_failure 8 = .ok (.astore 4, 2) := by decide +kernel
theorem dX5_failure_10 : decode cX5_failure 10 = .ok (.aload 4, 2) := by decide +kernel
theorem dX5_failure_12 : decode cX5_failure 12 = .ok (.ifnull 12, 3) := by decide +kernel
theorem dX5_failure_15 : decode cX5_failure 15 = .ok (.aload 4, 2) := by decide +kernel
theorem dX5_failure_17 : decode cX5_failure 17 = .ok (.iload_n 2, 1) := by decide +kernel
theorem dX5_failure_18 : decode cX5_failure 18 = .ok (.invokevirtual 166, 3) := by decide +kernel
theorem dX5_failure_21 : decode cX5_failure 21 = .ok (.ifCond .ne 5, 3) := by decide +kernel
theorem dX5_failure_24 : decode cX5_failure 24 = .ok (.iconst (-1), 1) := by decide +kernel
theorem dX5_failure_25 : decode cX5_failure 25 = .ok (.ireturn, 1) := by decide +kernel
theorem dX5_failure_26 : decode cX5_failure 26 = .ok (.aload_n 0, 1) := by decide +kernel
theorem dX5_failure_27 : decode cX5_failure 27 = .ok (.getfield 22, 3) := by decide +kernel
theorem dX5_failure_30 : decode cX5_failure 30 = .ok (.aload 4, 2) := by decide +kernel
theorem dX5_failure_32 : decode cX5_failure 32 = .ok (.aload_n 0, 1) := by decide +kernel
theorem dX5_failure_33 : decode cX5_failure 33 = .ok (.getfield 10, 3) := by decide +kernel
theorem dX5_failure_36 : decode cX5_failure 36 = .ok (.getfield 169, 3) := by decide +kernel
theorem dX5_failure_39 : decode cX5_failure 39 = .ok (.iconst (-1), 1) := by decide +kernel
theorem dX5_failure_40 : decode cX5_failure 40 = .ok (.invokevirtual 172, 3) := by decide +kernel
theorem dX5_failure_43 : decode cX5_failure 43 = .ok (.iload_n 3, 1) := by decide +kernel
theorem dX5_failure_44 : decode cX5_failure 44 = .ok (.tableswitch 94 0 4 #[36, 44, 52, 60, 77], 36) := by decide +kernel
theorem dX5_failure_80 : decode cX5_failure 80 = .ok (.aload 4, 2) := by decide +kernel
theorem dX5_failure_82 : decode cX5_failure 82 = .ok (.getfield 176, 3) := by decide +kernel
theorem dX5_failure_85 : decode cX5_failure 85 = .ok (.iload_n 2, 1) := by decide +kernel
theorem dX5_failure_86 : decode cX5_failure 86 = .ok (.iaload, 1) := by decide +kernel
theorem dX5_failure_87 : decode cX5_failure 87 = .ok (.ireturn, 1) := by decide +kernel
theorem dX5_failure_88 : decode cX5_failure 88 = .ok (.aload 4, 2) := by decide +kernel
theorem dX5_failure_90 : decode cX5_failure 90 = .ok (.getfield 179, 3) := by decide +kernel
theorem dX5_failure_93 : decode cX5_failure 93 = .ok (.iload_n 2, 1) := by decide +kernel
theorem dX5_failure_94 : decode cX5_failure 94 = .ok (.iaload, 1) := by decide +kernel
theorem dX5_failure_95 : decode cX5_failure 95 = .ok (.ireturn, 1) := by decide +kernel
theorem dX5_failure_96 : decode cX5_failure 96 = .ok (.aload 4, 2) := by decide +kernel
theorem dX5_failure_98 : decode cX5_failure 98 = .ok (.getfield 182, 3) := by decide +kernel
theorem dX5_failure_101 : decode cX5_failure 101 = .ok (.iload_n 2, 1) := by decide +kernel
theorem dX5_failure_102 : decode cX5_failure 102 = .ok (.iaload, 1) := by decide +kernel
theorem dX5_failure_103 : decode cX5_failure 103 = .ok (.ireturn, 1) := by decide +kernel
theorem dX5_failure_104 : decode cX5_failure 104 = .ok (.aload_n 0, 1) := by decide +kernel
theorem dX5_failure_105 : decode cX5_failure 105 = .ok (.getfield 22, 3) := by decide +kernel
theorem dX5_failure_108 : decode cX5_failure 108 = .ok (.iload_n 2, 1) := by decide +kernel
theorem dX5_failure_109 : decode cX5_failure 109 = .ok (.invokevirtual 185, 3) := by decide +kernel
theorem dX5_failure_112 : decode cX5_failure 112 = .ok (.ifCond .eq 7, 3) := by decide +kernel
theorem dX5_failure_115 : decode cX5_failure 115 = .ok (.iconst 1, 1) := by decide +kernel
theorem dX5_failure_116 : decode cX5_failure 116 = .ok (.goto 4, 3) := by decide +kernel
theorem dX5_failure_119 : decode cX5_failure 119 = .ok (.iconst 0, 1) := by decide +kernel
theorem dX5_failure_120 : decode cX5_failure 120 = .ok (.ireturn, 1) := by decide +kernel
theorem dX5_failure_121 : decode cX5_failure 121 = .ok (.aload_n 0, 1) := by decide +kernel
theorem dX5_failure_122 : decode cX5_failure 122 = .ok (.getfield 22, 3) := by decide +kernel
theorem dX5_failure_125 : decode cX5_failure 125 = .ok (.iload_n 2, 1) := by decide +kernel
theorem dX5_failure_126 : decode cX5_failure 126 = .ok (.invokevirtual 188, 3) := by decide +kernel
theorem dX5_failure_129 : decode cX5_failure 129 = .ok (.ifCond .eq 7, 3) := by decide +kernel
theorem dX5_failure_132 : decode cX5_failure 132 = .ok (.iconst 1, 1) := by decide +kernel
theorem dX5_failure_133 : decode cX5_failure 133 = .ok (.goto 4, 3) := by decide +kernel
theorem dX5_failure_136 : decode cX5_failure 136 = .ok (.iconst 0, 1) := by decide +kernel
theorem dX5_failure_137 : decode cX5_failure 137 = .ok (.ireturn, 1) := by decide +kernel
theorem dX5_failure_138 : decode cX5_failure 138 = .ok (.iconst (-1), 1) := by decide +kernel
theorem dX5_failure_139 : decode cX5_failure 139 = .ok (.ireturn, 1) := by decide +kernel
theorem dX5_violation_0 : decode cX5_violation 0 = .ok (.aload_n 0, 1) := by decide +kernel
theorem dX5_violation_1 : decode cX5_violation 1 = .ok (.getfield 10, 3) := by decide +kernel
theorem dX5_violation_4 : decode cX5_violation 4 = .ok (.iload_n 1, 1) := by decide +kernel
theorem dX5_violation_5 : decode cX5_violation 5 = .ok (.invokevirtual 107, 3) := by decide +kernel
theorem dX5_violation_8 : decode cX5_violation 8 = .ok (.astore_n 3, 1) := by decide +kernel
theorem dX5_violation_9 : decode cX5_violation 9 = .ok (.aload_n 3, 1) := by decide +kernel
theorem dX5_violation_10 : decode cX5_violation 10 = .ok (.ifnonnull 5, 3) := by decide +kernel
theorem dX5_violation_13 : decode cX5_violation 13 = .ok (.iconst (-1), 1) := by decide +kernel
theorem dX5_violation_14 : decode cX5_violation 14 = .ok (.ireturn, 1) := by decide +kernel
theorem dX5_violation_15 : decode cX5_violation 15 = .ok (.aload_n 0, 1) := by decide +kernel
theorem dX5_violation_16 : decode cX5_violation 16 = .ok (.getfield 22, 3) := by decide +kernel
theorem dX5_violation_19 : decode cX5_violation 19 = .ok (.aload_n 3, 1) := by decide +kernel
theorem dX5_violation_20 : decode cX5_violation 20 = .ok (.aload_n 0, 1) := by decide +kernel
theorem dX5_violation_21 : decode cX5_violation 21 = .ok (.getfield 10, 3) := by decide +kernel
theorem dX5_violation_24 : decode cX5_violation 24 = .ok (.getfield 169, 3) := by decide +kernel
theorem dX5_violation_27 : decode cX5_violation 27 = .ok (.iconst (-1), 1) := by decide +kernel
theorem dX5_violation_28 : decode cX5_violation 28 = .ok (.invokevirtual 172, 3) := by decide +kernel
theorem dX5_violation_31 : decode cX5_violation 31 = .ok (.aload_n 0, 1) := by decide +kernel
theorem dX5_violation_32 : decode cX5_violation 32 = .ok (.getfield 22, 3) := by decide +kernel
theorem dX5_violation_35 : decode cX5_violation 35 = .ok (.iload_n 2, 1) := by decide +kernel
theorem dX5_violation_36 : decode cX5_violation 36 = .ok (.invokevirtual 191, 3) := by decide +kernel
theorem dX5_violation_39 : decode cX5_violation 39 = .ok (.ireturn, 1) := by decide +kernel
theorem dX5_hole_0 : decode cX5_hole 0 = .ok (.aload_n 0, 1) := by decide +kernel
theorem dX5_hole_1 : decode cX5_hole 1 = .ok (.getfield 10, 3) := by decide +kernel
theorem dX5_hole_4 : decode cX5_hole 4 = .ok (.iload_n 1, 1) := by decide +kernel
theorem dX5_hole_5 : decode cX5_hole 5 = .ok (.invokevirtual 107, 3) := by decide +kernel
theorem dX5_hole_8 : decode cX5_hole 8 = .ok (.astore_n 3, 1) := by decide +kernel
theorem dX5_hole_9 : decode cX5_hole 9 = .ok (.aload_n 3, 1) := by decide +kernel
theorem dX5_hole_10 : decode cX5_hole 10 = .ok (.ifnonnull 7, 3) := by decide +kernel
theorem dX5_hole_13 : decode cX5_hole 13 = .ok (.iconst (-1), 1) := by decide +kernel
theorem dX5_hole_14 : decode cX5_hole 14 = .ok (.goto 8, 3) := by decide +kernel
theorem dX5_hole_17 : decode cX5_hole 17 = .ok (.aload_n 3, 1) := by decide +kernel
theorem dX5_hole_18 : decode cX5_hole 18 = .ok (.iload_n 2, 1) := by decide +kernel
theorem dX5_hole_19 : decode cX5_hole 19 = .ok (.invokevirtual 194, 3) := by decide +kernel
theorem dX5_hole_22 : decode cX5_hole 22 = .ok (.ireturn, 1) := by decide +kernel
theorem dX5_lot_0 : decode cX5_lot 0 = .ok (.iload_n 1, 1) := by decide +kernel
theorem dX5_lot_1 : decode cX5_lot 1 = .ok (.ifCond .lt 19, 3) := by decide +kernel
theorem dX5_lot_4 : decode cX5_lot 4 = .ok (.iload_n 2, 1) := by decide +kernel
theorem dX5_lot_5 : decode cX5_lot 5 = .ok (.iconst 1, 1) := by decide +kernel
theorem dX5_lot_6 : decode cX5_lot 6 = .ok (.if_icmp .lt 14, 3) := by decide +kernel
theorem dX5_lot_9 : decode cX5_lot 9 = .ok (.iload_n 2, 1) := by decide +kernel
theorem dX5_lot_10 : decode cX5_lot 10 = .ok (.aload_n 0, 1) := by decide +kernel
theorem dX5_lot_11 : decode cX5_lot 11 = .ok (.getfield 10, 3) := by decide +kernel
theorem dX5_lot_14 : decode cX5_lot 14 = .ok (.getfield 95, 3) := by decide +kernel
theorem dX5_lot_17 : decode cX5_lot 17 = .ok (.if_icmp .le 5, 3) := by decide +kernel
theorem dX5_lot_20 : decode cX5_lot 20 = .ok (.iconst (-1), 1) := by decide +kernel
theorem dX5_lot_21 : decode cX5_lot 21 = .ok (.ireturn, 1) := by decide +kernel
theorem dX5_lot_22 : decode cX5_lot 22 = .ok (.aload_n 0, 1) := by decide +kernel
theorem dX5_lot_23 : decode cX5_lot 23 = .ok (.invokevirtual 197, 3) := by decide +kernel
theorem dX5_lot_26 : decode cX5_lot 26 = .ok (.i2l, 1) := by decide +kernel
theorem dX5_lot_27 : decode cX5_lot 27 = .ok (.lstore_n 3, 1) := by decide +kernel
theorem dX5_lot_28 : decode cX5_lot 28 = .ok (.iload_n 1, 1) := by decide +kernel
theorem dX5_lot_29 : decode cX5_lot 29 = .ok (.i2l, 1) := by decide +kernel
theorem dX5_lot_30 : decode cX5_lot 30 = .ok (.lstore 5, 2) := by decide +kernel
theorem dX5_lot_32 : decode cX5_lot 32 = .ok (.iconst 0, 1) := by decide +kernel
theorem dX5_lot_33 : decode cX5_lot 33 = .ok (.istore 7, 2) := by decide +kernel
theorem dX5_lot_35 : decode cX5_lot 35 = .ok (.iconst 0, 1) := by decide +kernel
theorem dX5_lot_36 : decode cX5_lot 36 = .ok (.istore 8, 2) := by decide +kernel
theorem dX5_lot_38 : decode cX5_lot 38 = .ok (.iload 8, 2) := by decide +kernel
theorem dX5_lot_40 : decode cX5_lot 40 = .ok (.iload_n 2, 1) := by decide +kernel
theorem dX5_lot_41 : decode cX5_lot 41 = .ok (.if_icmp .ge 78, 3) := by decide +kernel
theorem dX5_lot_44 : decode cX5_lot 44 = .ok (.lload_n 3, 1) := by decide +kernel
theorem dX5_lot_45 : decode cX5_lot 45 = .ok (.lconst 0, 1) := by decide +kernel
theorem dX5_lot_46 : decode cX5_lot 46 = .ok (.lcmp, 1) := by decide +kernel
theorem dX5_lot_47 : decode cX5_lot 47 = .ok (.ifCond .le 72, 3) := by decide +kernel
theorem dX5_lot_50 : decode cX5_lot 50 = .ok (.ldc2_w 201, 3) := by decide +kernel
theorem dX5_lot_53 : decode cX5_lot 53 = .ok (.lload 5, 2) := by decide +kernel
theorem dX5_lot_55 : decode cX5_lot 55 = .ok (.lmul, 1) := by decide +kernel
theorem dX5_lot_56 : decode cX5_lot 56 = .ok (.ldc2_w 203, 3) := by decide +kernel
theorem dX5_lot_59 : decode cX5_lot 59 = .ok (.ladd, 1) := by decide +kernel
theorem dX5_lot_60 : decode cX5_lot 60 = .ok (.ldc2_w 205, 3) := by decide +kernel
theorem dX5_lot_63 : decode cX5_lot 63 = .ok (.lrem, 1) := by decide +kernel
theorem dX5_lot_64 : decode cX5_lot 64 = .ok (.lstore 5, 2) := by decide +kernel
theorem dX5_lot_66 : decode cX5_lot 66 = .ok (.aload_n 0, 1) := by decide +kernel
theorem dX5_lot_67 : decode cX5_lot 67 = .ok (.lload 5, 2) := by decide +kernel
theorem dX5_lot_69 : decode cX5_lot 69 = .ok (.lload_n 3, 1) := by decide +kernel
theorem dX5_lot_70 : decode cX5_lot 70 = .ok (.lrem, 1) := by decide +kernel
theorem dX5_lot_71 : decode cX5_lot 71 = .ok (.invokevirtual 207, 3) := by decide +kernel
theorem dX5_lot_74 : decode cX5_lot 74 = .ok (.istore 9, 2) := by decide +kernel
theorem dX5_lot_76 : decode cX5_lot 76 = .ok (.iload 9, 2) := by decide +kernel
theorem dX5_lot_78 : decode cX5_lot 78 = .ok (.iconst (-1), 1) := by decide +kernel
theorem dX5_lot_79 : decode cX5_lot 79 = .ok (.if_icmp .ne 5, 3) := by decide +kernel
theorem dX5_lot_82 : decode cX5_lot 82 = .ok (.iconst (-1), 1) := by decide +kernel
theorem dX5_lot_83 : decode cX5_lot 83 = .ok (.ireturn, 1) := by decide +kernel
theorem dX5_lot_84 : decode cX5_lot 84 = .ok (.lload_n 3, 1) := by decide +kernel
theorem dX5_lot_85 : decode cX5_lot 85 = .ok (.aload_n 0, 1) := by decide +kernel
theorem dX5_lot_86 : decode cX5_lot 86 = .ok (.getfield 42, 3) := by decide +kernel
theorem dX5_lot_89 : decode cX5_lot 89 = .ok (.iload 9, 2) := by decide +kernel
theorem dX5_lot_91 : decode cX5_lot 91 = .ok (.iaload, 1) := by decide +kernel
theorem dX5_lot_92 : decode cX5_lot 92 = .ok (.i2l, 1) := by decide +kernel
theorem dX5_lot_93 : decode cX5_lot 93 = .ok (.lsub, 1) := by decide +kernel
theorem dX5_lot_94 : decode cX5_lot 94 = .ok (.lstore_n 3, 1) := by decide +kernel
theorem dX5_lot_95 : decode cX5_lot 95 = .ok (.aload_n 0, 1) := by decide +kernel
theorem dX5_lot_96 : decode cX5_lot 96 = .ok (.getfield 42, 3) := by decide +kernel
theorem dX5_lot_99 : decode cX5_lot 99 = .ok (.iload 9, 2) := by decide +kernel
theorem dX5_lot_101 : decode cX5_lot 101 = .ok (.iconst 0, 1) := by decide +kernel
theorem dX5_lot_102 : decode cX5_lot 102 = .ok (.iastore, 1) := by decide +kernel
theorem dX5_lot_103 : decode cX5_lot 103 = .ok (.iload 7, 2) := by decide +kernel
theorem dX5_lot_105 : decode cX5_lot 105 = .ok (.bipush 10, 2) := by decide +kernel
theorem dX5_lot_107 : decode cX5_lot 107 = .ok (.imul, 1) := by decide +kernel
theorem dX5_lot_108 : decode cX5_lot 108 = .ok (.iload 9, 2) := by decide +kernel
theorem dX5_lot_110 : decode cX5_lot 110 = .ok (.iadd, 1) := by decide +kernel
theorem dX5_lot_111 : decode cX5_lot 111 = .ok (.istore 7, 2) := by decide +kernel
theorem dX5_lot_113 : decode cX5_lot 113 = .ok (.iinc 8 1, 3) := by decide +kernel
theorem dX5_lot_116 : decode cX5_lot 116 = .ok (.goto (-78), 3) := by decide +kernel
theorem dX5_lot_119 : decode cX5_lot 119 = .ok (.iload 7, 2) := by decide +kernel
theorem dX5_lot_121 : decode cX5_lot 121 = .ok (.ireturn, 1) := by decide +kernel
theorem dX5_chance_0 : decode cX5_chance 0 = .ok (.iload_n 1, 1) := by decide +kernel
theorem dX5_chance_1 : decode cX5_chance 1 = .ok (.ifCond .lt 20, 3) := by decide +kernel
theorem dX5_chance_4 : decode cX5_chance 4 = .ok (.iload_n 1, 1) := by decide +kernel
theorem dX5_chance_5 : decode cX5_chance 5 = .ok (.aload_n 0, 1) := by decide +kernel
theorem dX5_chance_6 : decode cX5_chance 6 = .ok (.getfield 10, 3) := by decide +kernel
theorem dX5_chance_9 : decode cX5_chance 9 = .ok (.getfield 95, 3) := by decide +kernel
theorem dX5_chance_12 : decode cX5_chance 12 = .ok (.if_icmp .ge 9, 3) := by decide +kernel
theorem dX5_chance_15 : decode cX5_chance 15 = .ok (.iload_n 1, 1) := by decide +kernel
theorem dX5_chance_16 : decode cX5_chance 16 = .ok (.bipush 6, 2) := by decide +kernel
theorem dX5_chance_18 : decode cX5_chance 18 = .ok (.if_icmp .lt 5, 3) := by decide +kernel
theorem dX5_chance_21 : decode cX5_chance 21 = .ok (.iconst (-1), 1) := by decide +kernel
theorem dX5_chance_22 : decode cX5_chance 22 = .ok (.ireturn, 1) := by decide +kernel
theorem dX5_chance_23 : decode cX5_chance 23 = .ok (.aload_n 0, 1) := by decide +kernel
theorem dX5_chance_24 : decode cX5_chance 24 = .ok (.invokevirtual 197, 3) := by decide +kernel
theorem dX5_chance_27 : decode cX5_chance 27 = .ok (.istore_n 3, 1) := by decide +kernel
theorem dX5_chance_28 : decode cX5_chance 28 = .ok (.aload_n 0, 1) := by decide +kernel
theorem dX5_chance_29 : decode cX5_chance 29 = .ok (.getfield 42, 3) := by decide +kernel
theorem dX5_chance_32 : decode cX5_chance 32 = .ok (.iload_n 1, 1) := by decide +kernel
theorem dX5_chance_33 : decode cX5_chance 33 = .ok (.iaload, 1) := by decide +kernel
theorem dX5_chance_34 : decode cX5_chance 34 = .ok (.istore 4, 2) := by decide +kernel
theorem dX5_chance_36 : decode cX5_chance 36 = .ok (.iload 4, 2) := by decide +kernel
theorem dX5_chance_38 : decode cX5_chance 38 = .ok (.iload_n 3, 1) := by decide +kernel
theorem dX5_chance_39 : decode cX5_chance 39 = .ok (.invokestatic 211, 3) := by decide +kernel
theorem dX5_chance_42 : decode cX5_chance 42 = .ok (.istore 5, 2) := by decide +kernel
theorem dX5_chance_44 : decode cX5_chance 44 = .ok (.iload 5, 2) := by decide +kernel
theorem dX5_chance_46 : decode cX5_chance 46 = .ok (.iconst 1, 1) := by decide +kernel
theorem dX5_chance_47 : decode cX5_chance 47 = .ok (.if_icmp .ge 5, 3) := by decide +kernel
theorem dX5_chance_50 : decode cX5_chance 50 = .ok (.iconst (-1), 1) := by decide +kernel
theorem dX5_chance_51 : decode cX5_chance 51 = .ok (.ireturn, 1) := by decide +kernel
theorem dX5_chance_52 : decode cX5_chance 52 = .ok (.iload_n 2, 1) := by decide +kernel
theorem dX5_chance_53 : decode cX5_chance 53 = .ok (.ifCond .eq 7, 3) := by decide +kernel
theorem dX5_chance_56 : decode cX5_chance 56 = .ok (.iload_n 3, 1) := by decide +kernel
theorem dX5_chance_57 : decode cX5_chance 57 = .ok (.goto 5, 3) := by decide +kernel
theorem dX5_chance_60 : decode cX5_chance 60 = .ok (.iload 4, 2) := by decide +kernel
theorem dX5_chance_62 : decode cX5_chance 62 = .ok (.iload 5, 2) := by decide +kernel
theorem dX5_chance_64 : decode cX5_chance 64 = .ok (.idiv, 1) := by decide +kernel
theorem dX5_chance_65 : decode cX5_chance 65 = .ok (.ireturn, 1) := by decide +kernel
theorem dX5_round_0 : decode cX5_round 0 = .ok (.iload_n 1, 1) := by decide +kernel
theorem dX5_round_1 : decode cX5_round 1 = .ok (.invokestatic 153, 3) := by decide +kernel
theorem dX5_round_4 : decode cX5_round 4 = .ok (.ifCond .eq 12, 3) := by decide +kernel
theorem dX5_round_7 : decode cX5_round 7 = .ok (.iload_n 3, 1) := by decide +kernel
theorem dX5_round_8 : decode cX5_round 8 = .ok (.ifCond .lt 8, 3) := by decide +kernel
theorem dX5_round_11 : decode cX5_round 11 = .ok (.iload_n 3, 1) := by decide +kernel
theorem dX5_round_12 : decode cX5_round 12 = .ok (.iconst 1, 1) := by decide +kernel
theorem dX5_round_13 : decode cX5_round 13 = .ok (.if_icmp .le 5, 3) := by decide +kernel
theorem dX5_round_16 : decode cX5_round 16 = .ok (.iconst (-1), 1) := by decide +kernel
theorem dX5_round_17 : decode cX5_round 17 = .ok (.ireturn, 1) := by decide +kernel
theorem dX5_round_18 : decode cX5_round 18 = .ok (.iload_n 2, 1) := by decide +kernel
theorem dX5_round_19 : decode cX5_round 19 = .ok (.iconst (-1), 1) := by decide +kernel
theorem dX5_round_20 : decode cX5_round 20 = .ok (.if_icmp .ne 21, 3) := by decide +kernel
theorem dX5_round_23 : decode cX5_round 23 = .ok (.iload_n 3, 1) := by decide +kernel
theorem dX5_round_24 : decode cX5_round 24 = .ok (.ifCond .ne 11, 3) := by decide +kernel
theorem dX5_round_27 : decode cX5_round 27 = .ok (.aload_n 0, 1) := by decide +kernel
theorem dX5_round_28 : decode cX5_round 28 = .ok (.iload_n 1, 1) := by decide +kernel
theorem dX5_round_29 : decode cX5_round 29 = .ok (.invokevirtual 214, 3) := by decide +kernel
theorem dX5_round_32 : decode cX5_round 32 = .ok (.goto 8, 3) := by decide +kernel
theorem dX5_round_35 : decode cX5_round 35 = .ok (.aload_n 0, 1) := by decide +kernel
theorem dX5_round_36 : decode cX5_round 36 = .ok (.iload_n 1, 1) := by decide +kernel
theorem dX5_round_37 : decode cX5_round 37 = .ok (.invokevirtual 217, 3) := by decide +kernel
theorem dX5_round_40 : decode cX5_round 40 = .ok (.ireturn, 1) := by decide +kernel
theorem dX5_round_41 : decode cX5_round 41 = .ok (.iload_n 2, 1) := by decide +kernel
theorem dX5_round_42 : decode cX5_round 42 = .ok (.invokestatic 220, 3) := by decide +kernel
theorem dX5_round_45 : decode cX5_round 45 = .ok (.ifCond .ne 5, 3) := by decide +kernel
theorem dX5_round_48 : decode cX5_round 48 = .ok (.iconst (-1), 1) := by decide +kernel
theorem dX5_round_49 : decode cX5_round 49 = .ok (.ireturn, 1) := by decide +kernel
theorem dX5_round_50 : decode cX5_round 50 = .ok (.aload_n 0, 1) := by decide +kernel
theorem dX5_round_51 : decode cX5_round 51 = .ok (.getfield 10, 3) := by decide +kernel
theorem dX5_round_54 : decode cX5_round 54 = .ok (.iload_n 1, 1) := by decide +kernel
theorem dX5_round_55 : decode cX5_round 55 = .ok (.iload_n 2, 1) := by decide +kernel
theorem dX5_round_56 : decode cX5_round 56 = .ok (.invokevirtual 223, 3) := by decide +kernel
theorem dX5_round_59 : decode cX5_round 59 = .ok (.istore 4, 2) := by decide +kernel
theorem dX5_round_61 : decode cX5_round 61 = .ok (.iload 4, 2) := by decide +kernel
theorem dX5_round_63 : decode cX5_round 63 = .ok (.iconst (-1), 1) := by decide +kernel
theorem dX5_round_64 : decode cX5_round 64 = .ok (.if_icmp .ne 5, 3) := by decide +kernel
theorem dX5_round_67 : decode cX5_round 67 = .ok (.iconst (-1), 1) := by decide +kernel
theorem dX5_round_68 : decode cX5_round 68 = .ok (.ireturn, 1) := by decide +kernel
theorem dX5_round_69 : decode cX5_round 69 = .ok (.iload_n 3, 1) := by decide +kernel
theorem dX5_round_70 : decode cX5_round 70 = .ok (.ifCond .ne 8, 3) := by decide +kernel
theorem dX5_round_73 : decode cX5_round 73 = .ok (.iload 4, 2) := by decide +kernel
theorem dX5_round_75 : decode cX5_round 75 = .ok (.goto 14, 3) := by decide +kernel
theorem dX5_round_78 : decode cX5_round 78 = .ok (.aload_n 0, 1) := by decide +kernel
theorem dX5_round_79 : decode cX5_round 79 = .ok (.getfield 10, 3) := by decide +kernel
theorem dX5_round_82 : decode cX5_round 82 = .ok (.iload_n 1, 1) := by decide +kernel
theorem dX5_round_83 : decode cX5_round 83 = .ok (.iload_n 2, 1) := by decide +kernel
theorem dX5_round_84 : decode cX5_round 84 = .ok (.iload 4, 2) := by decide +kernel
theorem dX5_round_86 : decode cX5_round 86 = .ok (.invokevirtual 226, 3) := by decide +kernel
theorem dX5_round_89 : decode cX5_round 89 = .ok (.ireturn, 1) := by decide +kernel
theorem dX5_there_0 : decode cX5_there 0 = .ok (.iload_n 1, 1) := by decide +kernel
theorem dX5_there_1 : decode cX5_there 1 = .ok (.invokestatic 153, 3) := by decide +kernel
theorem dX5_there_4 : decode cX5_there 4 = .ok (.ifCond .eq 17, 3) := by decide +kernel
theorem dX5_there_7 : decode cX5_there 7 = .ok (.iload_n 2, 1) := by decide +kernel
theorem dX5_there_8 : decode cX5_there 8 = .ok (.invokestatic 230, 3) := by decide +kernel
theorem dX5_there_11 : decode cX5_there 11 = .ok (.ifCond .eq 10, 3) := by decide +kernel
theorem dX5_there_14 : decode cX5_there 14 = .ok (.iload_n 3, 1) := by decide +kernel
theorem dX5_there_15 : decode cX5_there 15 = .ok (.invokestatic 233, 3) := by decide +kernel
theorem dX5_there_18 : decode cX5_there 18 = .ok (.ifCond .ne 5, 3) := by decide +kernel
theorem dX5_there_21 : decode cX5_there 21 = .ok (.iconst (-1), 1) := by decide +kernel
theorem dX5_there_22 : decode cX5_there 22 = .ok (.ireturn, 1) := by decide +kernel
theorem dX5_there_23 : decode cX5_there 23 = .ok (.aload_n 0, 1) := by decide +kernel
theorem dX5_there_24 : decode cX5_there 24 = .ok (.getfield 10, 3) := by decide +kernel
theorem dX5_there_27 : decode cX5_there 27 = .ok (.iload_n 1, 1) := by decide +kernel
theorem dX5_there_28 : decode cX5_there 28 = .ok (.iload_n 2, 1) := by decide +kernel
theorem dX5_there_29 : decode cX5_there 29 = .ok (.iload_n 3, 1) := by decide +kernel
theorem dX5_there_30 : decode cX5_there 30 = .ok (.invokevirtual 226, 3) := by decide +kernel
theorem dX5_there_33 : decode cX5_there 33 = .ok (.ireturn, 1) := by decide +kernel
theorem dX5_danger_0 : decode cX5_danger 0 = .ok (.aload_n 0, 1) := by decide +kernel
theorem dX5_danger_1 : decode cX5_danger 1 = .ok (.getfield 10, 3) := by decide +kernel
theorem dX5_danger_4 : decode cX5_danger 4 = .ok (.iload_n 1, 1) := by decide +kernel
theorem dX5_danger_5 : decode cX5_danger 5 = .ok (.invokevirtual 107, 3) := by decide +kernel
theorem dX5_danger_8 : decode cX5_danger 8 = .ok (.astore_n 2, 1) := by decide +kernel
theorem dX5_danger_9 : decode cX5_danger 9 = .ok (.aload_n 2, 1) := by decide +kernel
theorem dX5_danger_10 : decode cX5_danger 10 = .ok (.ifnonnull 5, 3) := by decide +kernel
theorem dX5_danger_13 : decode cX5_danger 13 = .ok (.iconst (-1), 1) := by decide +kernel
theorem dX5_danger_14 : decode cX5_danger 14 = .ok (.ireturn, 1) := by decide +kernel
theorem dX5_danger_15 : decode cX5_danger 15 = .ok (.aload_n 0, 1) := by decide +kernel
theorem dX5_danger_16 : decode cX5_danger 16 = .ok (.aload_n 2, 1) := by decide +kernel
theorem dX5_danger_17 : decode cX5_danger 17 = .ok (.invokevirtual 130, 3) := by decide +kernel
theorem dX5_danger_20 : decode cX5_danger 20 = .ok (.istore_n 3, 1) := by decide +kernel
theorem dX5_danger_21 : decode cX5_danger 21 = .ok (.aload_n 0, 1) := by decide +kernel
theorem dX5_danger_22 : decode cX5_danger 22 = .ok (.getfield 22, 3) := by decide +kernel
theorem dX5_danger_25 : decode cX5_danger 25 = .ok (.aload_n 0, 1) := by decide +kernel
theorem dX5_danger_26 : decode cX5_danger 26 = .ok (.getfield 10, 3) := by decide +kernel
theorem dX5_danger_29 : decode cX5_danger 29 = .ok (.getfield 98, 3) := by decide +kernel
theorem dX5_danger_32 : decode cX5_danger 32 = .ok (.iconst 0, 1) := by decide +kernel
theorem dX5_danger_33 : decode cX5_danger 33 = .ok (.invokevirtual 236, 3) := by decide +kernel
theorem dX5_danger_36 : decode cX5_danger 36 = .ok (.aload_n 0, 1) := by decide +kernel
theorem dX5_danger_37 : decode cX5_danger 37 = .ok (.getfield 22, 3) := by decide +kernel
theorem dX5_danger_40 : decode cX5_danger 40 = .ok (.getfield 240, 3) := by decide +kernel
theorem dX5_danger_43 : decode cX5_danger 43 = .ok (.iload_n 3, 1) := by decide +kernel
theorem dX5_danger_44 : decode cX5_danger 44 = .ok (.if_icmp .le 7, 3) := by decide +kernel
theorem dX5_danger_47 : decode cX5_danger 47 = .ok (.iconst 1, 1) := by decide +kernel
theorem dX5_danger_48 : decode cX5_danger 48 = .ok (.goto 4, 3) := by decide +kernel
theorem dX5_danger_51 : decode cX5_danger 51 = .ok (.iconst 0, 1) := by decide +kernel
theorem dX5_danger_52 : decode cX5_danger 52 = .ok (.ireturn, 1) := by decide +kernel
theorem dX5_easier_0 : decode cX5_easier 0 = .ok (.aload_n 0, 1) := by decide +kernel
theorem dX5_easier_1 : decode cX5_easier 1 = .ok (.getfield 10, 3) := by decide +kernel
theorem dX5_easier_4 : decode cX5_easier 4 = .ok (.iload_n 1, 1) := by decide +kernel
theorem dX5_easier_5 : decode cX5_easier 5 = .ok (.invokevirtual 107, 3) := by decide +kernel
theorem dX5_easier_8 : decode cX5_easier 8 = .ok (.astore_n 2, 1) := by decide +kernel
theorem dX5_easier_9 : decode cX5_easier 9 = .ok (.aload_n 2, 1) := by decide +kernel
theorem dX5_easier_10 : decode cX5_easier 10 = .ok (.ifnonnull 5, 3) := by decide +kernel
theorem dX5_easier_13 : decode cX5_easier 13 = .ok (.iconst (-1), 1) := by decide +kernel
theorem dX5_easier_14 : decode cX5_easier 14 = .ok (.ireturn, 1) := by decide +kernel
theorem dX5_easier_15 : decode cX5_easier 15 = .ok (.aload_n 0, 1) := by decide +kernel
theorem dX5_easier_16 : decode cX5_easier 16 = .ok (.getfield 22, 3) := by decide +kernel
theorem dX5_easier_19 : decode cX5_easier 19 = .ok (.aload_n 2, 1) := by decide +kernel
theorem dX5_easier_20 : decode cX5_easier 20 = .ok (.aload_n 0, 1) := by decide +kernel
theorem dX5_easier_21 : decode cX5_easier 21 = .ok (.getfield 10, 3) := by decide +kernel
theorem dX5_easier_24 : decode cX5_easier 24 = .ok (.getfield 169, 3) := by decide +kernel
theorem dX5_easier_27 : decode cX5_easier 27 = .ok (.iconst (-1), 1) := by decide +kernel
theorem dX5_easier_28 : decode cX5_easier 28 = .ok (.invokevirtual 172, 3) := by decide +kernel
theorem dX5_easier_31 : decode cX5_easier 31 = .ok (.aload_n 0, 1) := by decide +kernel
theorem dX5_easier_32 : decode cX5_easier 32 = .ok (.getfield 22, 3) := by decide +kernel
theorem dX5_easier_35 : decode cX5_easier 35 = .ok (.aload_n 0, 1) := by decide +kernel
theorem dX5_easier_36 : decode cX5_easier 36 = .ok (.getfield 10, 3) := by decide +kernel
theorem dX5_easier_39 : decode cX5_easier 39 = .ok (.getfield 98, 3) := by decide +kernel
theorem dX5_easier_42 : decode cX5_easier 42 = .ok (.invokevirtual 243, 3) := by decide +kernel
theorem dX5_easier_45 : decode cX5_easier 45 = .ok (.istore_n 3, 1) := by decide +kernel
theorem dX5_easier_46 : decode cX5_easier 46 = .ok (.iload_n 3, 1) := by decide +kernel
theorem dX5_easier_47 : decode cX5_easier 47 = .ok (.iconst (-1), 1) := by decide +kernel
theorem dX5_easier_48 : decode cX5_easier 48 = .ok (.if_icmp .ne 7, 3) := by decide +kernel
theorem dX5_easier_51 : decode cX5_easier 51 = .ok (.iconst (-1), 1) := by decide +kernel
theorem dX5_easier_52 : decode cX5_easier 52 = .ok (.goto 14, 3) := by decide +kernel
theorem dX5_easier_55 : decode cX5_easier 55 = .ok (.iload_n 3, 1) := by decide +kernel
theorem dX5_easier_56 : decode cX5_easier 56 = .ok (.aload_n 0, 1) := by decide +kernel
theorem dX5_easier_57 : decode cX5_easier 57 = .ok (.getfield 10, 3) := by decide +kernel
theorem dX5_easier_60 : decode cX5_easier 60 = .ok (.getfield 169, 3) := by decide +kernel
theorem dX5_easier_63 : decode cX5_easier 63 = .ok (.iconst 0, 1) := by decide +kernel
theorem dX5_easier_64 : decode cX5_easier 64 = .ok (.iaload, 1) := by decide +kernel
theorem dX5_easier_65 : decode cX5_easier 65 = .ok (.iadd, 1) := by decide +kernel
theorem dX5_easier_66 : decode cX5_easier 66 = .ok (.ireturn, 1) := by decide +kernel
theorem dX5_without_0 : decode cX5_without 0 = .ok (.aload_n 0, 1) := by decide +kernel
theorem dX5_without_1 : decode cX5_without 1 = .ok (.getfield 10, 3) := by decide +kernel
theorem dX5_without_4 : decode cX5_without 4 = .ok (.iload_n 1, 1) := by decide +kernel
theorem dX5_without_5 : decode cX5_without 5 = .ok (.invokevirtual 107, 3) := by decide +kernel
theorem dX5_without_8 : decode cX5_without 8 = .ok (.astore_n 3, 1) := by decide +kernel
theorem dX5_without_9 : decode cX5_without 9 = .ok (.aload_n 3, 1) := by decide +kernel
theorem dX5_without_10 : decode cX5_without 10 = .ok (.ifnull 11, 3) := by decide +kernel
theorem dX5_without_13 : decode cX5_without 13 = .ok (.aload_n 3, 1) := by decide +kernel
theorem dX5_without_14 : decode cX5_without 14 = .ok (.iload_n 2, 1) := by decide +kernel
theorem dX5_without_15 : decode cX5_without 15 = .ok (.invokevirtual 166, 3) := by decide +kernel
theorem dX5_without_18 : decode cX5_without 18 = .ok (.ifCond .ne 5, 3) := by decide +kernel
theorem dX5_without_21 : decode cX5_without 21 = .ok (.iconst (-1), 1) := by decide +kernel
theorem dX5_without_22 : decode cX5_without 22 = .ok (.ireturn, 1) := by decide +kernel
theorem dX5_without_23 : decode cX5_without 23 = .ok (.aload_n 0, 1) := by decide +kernel
theorem dX5_without_24 : decode cX5_without 24 = .ok (.getfield 22, 3) := by decide +kernel
theorem dX5_without_27 : decode cX5_without 27 = .ok (.aload_n 3, 1) := by decide +kernel
theorem dX5_without_28 : decode cX5_without 28 = .ok (.aload_n 0, 1) := by decide +kernel
theorem dX5_without_29 : decode cX5_without 29 = .ok (.getfield 10, 3) := by decide +kernel
theorem dX5_without_32 : decode cX5_without 32 = .ok (.getfield 169, 3) := by decide +kernel
theorem dX5_without_35 : decode cX5_without 35 = .ok (.iload_n 2, 1) := by decide +kernel
theorem dX5_without_36 : decode cX5_without 36 = .ok (.invokevirtual 172, 3) := by decide +kernel
theorem dX5_without_39 : decode cX5_without 39 = .ok (.aload_n 0, 1) := by decide +kernel
theorem dX5_without_40 : decode cX5_without 40 = .ok (.getfield 22, 3) := by decide +kernel
theorem dX5_without_43 : decode cX5_without 43 = .ok (.getfield 240, 3) := by decide +kernel
theorem dX5_without_46 : decode cX5_without 46 = .ok (.ireturn, 1) := by decide +kernel
theorem dX5_worst_0 : decode cX5_worst 0 = .ok (.iconst (-1), 1) := by decide +kernel
theorem dX5_worst_1 : decode cX5_worst 1 = .ok (.istore_n 1, 1) := by decide +kernel
theorem dX5_worst_2 : decode cX5_worst 2 = .ok (.iconst 0, 1) := by decide +kernel
theorem dX5_worst_3 : decode cX5_worst 3 = .ok (.istore_n 2, 1) := by decide +kernel
theorem dX5_worst_4 : decode cX5_worst 4 = .ok (.iconst 0, 1) := by decide +kernel
theorem dX5_worst_5 : decode cX5_worst 5 = .ok (.istore_n 3, 1) := by decide +kernel
theorem dX5_worst_6 : decode cX5_worst 6 = .ok (.iconst 0, 1) := by decide +kernel
theorem dX5_worst_7 : decode cX5_worst 7 = .ok (.istore 4, 2) := by decide +kernel
theorem dX5_worst_9 : decode cX5_worst 9 = .ok (.iconst 0, 1) := by decide +kernel
theorem dX5_worst_10 : decode cX5_worst 10 = .ok (.istore 5, 2) := by decide +kernel
theorem dX5_worst_12 : decode cX5_worst 12 = .ok (.iload 5, 2) := by decide +kernel
theorem dX5_worst_14 : decode cX5_worst 14 = .ok (.aload_n 0, 1) := by decide +kernel
theorem dX5_worst_15 : decode cX5_worst 15 = .ok (.getfield 10, 3) := by decide +kernel
theorem dX5_worst_18 : decode cX5_worst 18 = .ok (.getfield 95, 3) := by decide +kernel
theorem dX5_worst_21 : decode cX5_worst 21 = .ok (.if_icmp .ge 107, 3) := by decide +kernel
theorem dX5_worst_24 : decode cX5_worst 24 = .ok (.aload_n 0, 1) := by decide +kernel
theorem dX5_worst_25 : decode cX5_worst 25 = .ok (.getfield 10, 3) := by decide +kernel
theorem dX5_worst_28 : decode cX5_worst 28 = .ok (.iload 5, 2) := by decide +kernel
theorem dX5_worst_30 : decode cX5_worst 30 = .ok (.invokevirtual 107, 3) := by decide +kernel
theorem dX5_worst_33 : decode cX5_worst 33 = .ok (.astore 6, 2) := by decide +kernel
theorem dX5_worst_35 : decode cX5_worst 35 = .ok (.aload 6, 2) := by decide +kernel
theorem dX5_worst_37 : decode cX5_worst 37 = .ok (.ifnonnull 5, 3) := by decide +kernel
theorem dX5_worst_40 : decode cX5_worst 40 = .ok (.iconst (-1), 1) := by decide +kernel
theorem dX5_worst_41 : decode cX5_worst 41 = .ok (.ireturn, 1) := by decide +kernel
theorem dX5_worst_42 : decode cX5_worst 42 = .ok (.aload_n 0, 1) := by decide +kernel
theorem dX5_worst_43 : decode cX5_worst 43 = .ok (.aload 6, 2) := by decide +kernel
theorem dX5_worst_45 : decode cX5_worst 45 = .ok (.invokevirtual 130, 3) := by decide +kernel
theorem dX5_worst_48 : decode cX5_worst 48 = .ok (.istore 7, 2) := by decide +kernel
theorem dX5_worst_50 : decode cX5_worst 50 = .ok (.aload_n 0, 1) := by decide +kernel
theorem dX5_worst_51 : decode cX5_worst 51 = .ok (.aload 6, 2) := by decide +kernel
theorem dX5_worst_53 : decode cX5_worst 53 = .ok (.invokevirtual 123, 3) := by decide +kernel
theorem dX5_worst_56 : decode cX5_worst 56 = .ok (.istore 8, 2) := by decide +kernel
theorem dX5_worst_58 : decode cX5_worst 58 = .ok (.iload 7, 2) := by decide +kernel
theorem dX5_worst_60 : decode cX5_worst 60 = .ok (.iload_n 2, 1) := by decide +kernel
theorem dX5_worst_61 : decode cX5_worst 61 = .ok (.invokestatic 246, 3) := by decide +kernel
theorem dX5_worst_64 : decode cX5_worst 64 = .ok (.istore 9, 2) := by decide +kernel
theorem dX5_worst_66 : decode cX5_worst 66 = .ok (.iload 9, 2) := by decide +kernel
theorem dX5_worst_68 : decode cX5_worst 68 = .ok (.ifCond .ne 11, 3) := by decide +kernel
theorem dX5_worst_71 : decode cX5_worst 71 = .ok (.iload 8, 2) := by decide +kernel
theorem dX5_worst_73 : decode cX5_worst 73 = .ok (.iload_n 3, 1) := by decide +kernel
theorem dX5_worst_74 : decode cX5_worst 74 = .ok (.invokestatic 246, 3) := by decide +kernel
theorem dX5_worst_77 : decode cX5_worst 77 = .ok (.istore 9, 2) := by decide +kernel
theorem dX5_worst_79 : decode cX5_worst 79 = .ok (.iload 9, 2) := by decide +kernel
theorem dX5_worst_81 : decode cX5_worst 81 = .ok (.ifCond .ne 15, 3) := by decide +kernel
theorem dX5_worst_84 : decode cX5_worst 84 = .ok (.aload 6, 2) := by decide +kernel
theorem dX5_worst_86 : decode cX5_worst 86 = .ok (.getfield 127, 3) := by decide +kernel
theorem dX5_worst_89 : decode cX5_worst 89 = .ok (.iload 4, 2) := by decide +kernel
theorem dX5_worst_91 : decode cX5_worst 91 = .ok (.invokestatic 246, 3) := by decide +kernel
theorem dX5_worst_94 : decode cX5_worst 94 = .ok (.istore 9, 2) := by decide +kernel
theorem dX5_worst_96 : decode cX5_worst 96 = .ok (.iload_n 1, 1) := by decide +kernel
theorem dX5_worst_97 : decode cX5_worst 97 = .ok (.iconst (-1), 1) := by decide +kernel
theorem dX5_worst_98 : decode cX5_worst 98 = .ok (.if_icmp .eq 8, 3) := by decide +kernel
theorem dX5_worst_101 : decode cX5_worst 101 = .ok (.iload 9, 2) := by decide +kernel
theorem dX5_worst_103 : decode cX5_worst 103 = .ok (.ifCond .le 19, 3) := by decide +kernel
theorem dX5_worst_106 : decode cX5_worst 106 = .ok (.iload 5, 2) := by decide +kernel
theorem dX5_worst_108 : decode cX5_worst 108 = .ok (.istore_n 1, 1) := by decide +kernel
theorem dX5_worst_109 : decode cX5_worst 109 = .ok (.iload 7, 2) := by decide +kernel
theorem dX5_worst_111 : decode cX5_worst 111 = .ok (.istore_n 2, 1) := by decide +kernel
theorem dX5_worst_112 : decode cX5_worst 112 = .ok (.iload 8, 2) := by decide +kernel
theorem dX5_worst_114 : decode cX5_worst 114 = .ok (.istore_n 3, 1) := by decide +kernel
theorem dX5_worst_115 : decode cX5_worst 115 = .ok (.aload 6, 2) := by decide +kernel
theorem dX5_worst_117 : decode cX5_worst 117 = .ok (.getfield 127, 3) := by decide +kernel
theorem dX5_worst_120 : decode cX5_worst 120 = .ok (.istore 4, 2) := by decide +kernel
theorem dX5_worst_122 : decode cX5_worst 122 = .ok (.iinc 5 1, 3) := by decide +kernel
theorem dX5_worst_125 : decode cX5_worst 125 = .ok (.goto (-113), 3) := by decide +kernel
theorem dX5_worst_128 : decode cX5_worst 128 = .ok (.iload_n 1, 1) := by decide +kernel
theorem dX5_worst_129 : decode cX5_worst 129 = .ok (.ireturn, 1) := by decide +kernel
theorem dX5_pointsOf_0 : decode cX5_pointsOf 0 = .ok (.aload_n 0, 1) := by decide +kernel
theorem dX5_pointsOf_1 : decode cX5_pointsOf 1 = .ok (.getfield 22, 3) := by decide +kernel
theorem dX5_pointsOf_4 : decode cX5_pointsOf 4 = .ok (.aload_n 1, 1) := by decide +kernel
theorem dX5_pointsOf_5 : decode cX5_pointsOf 5 = .ok (.aload_n 0, 1) := by decide +kernel
theorem dX5_pointsOf_6 : decode cX5_pointsOf 6 = .ok (.getfield 10, 3) := by decide +kernel
theorem dX5_pointsOf_9 : decode cX5_pointsOf 9 = .ok (.getfield 169, 3) := by decide +kernel
theorem dX5_pointsOf_12 : decode cX5_pointsOf 12 = .ok (.iconst (-1), 1) := by decide +kernel
theorem dX5_pointsOf_13 : decode cX5_pointsOf 13 = .ok (.invokevirtual 172, 3) := by decide +kernel
theorem dX5_pointsOf_16 : decode cX5_pointsOf 16 = .ok (.aload_n 0, 1) := by decide +kernel
theorem dX5_pointsOf_17 : decode cX5_pointsOf 17 = .ok (.getfield 22, 3) := by decide +kernel
theorem dX5_pointsOf_20 : decode cX5_pointsOf 20 = .ok (.aload_n 0, 1) := by decide +kernel
theorem dX5_pointsOf_21 : decode cX5_pointsOf 21 = .ok (.getfield 10, 3) := by decide +kernel
theorem dX5_pointsOf_24 : decode cX5_pointsOf 24 = .ok (.getfield 98, 3) := by decide +kernel
theorem dX5_pointsOf_27 : decode cX5_pointsOf 27 = .ok (.invokevirtual 251, 3) := by decide +kernel
theorem dX5_pointsOf_30 : decode cX5_pointsOf 30 = .ok (.ireturn, 1) := by decide +kernel
theorem dX5_violationsOf_0 : decode cX5_violationsOf 0 = .ok (.aload_n 0, 1) := by decide +kernel
theorem dX5_violationsOf_1 : decode cX5_violationsOf 1 = .ok (.getfield 22, 3) := by decide +kernel
theorem dX5_violationsOf_4 : decode cX5_violationsOf 4 = .ok (.aload_n 1, 1) := by decide +kernel
theorem dX5_violationsOf_5 : decode cX5_violationsOf 5 = .ok (.aload_n 0, 1) := by decide +kernel
theorem dX5_violationsOf_6 : decode cX5_violationsOf 6 = .ok (.getfield 10, 3) := by decide +kernel
theorem dX5_violationsOf_9 : decode cX5_violationsOf 9 = .ok (.getfield 169, 3) := by decide +kernel
theorem dX5_violationsOf_12 : decode cX5_violationsOf 12 = .ok (.iconst (-1), 1) := by decide +kernel
theorem dX5_violationsOf_13 : decode cX5_violationsOf 13 = .ok (.invokevirtual 172, 3) := by decide +kernel
theorem dX5_violationsOf_16 : decode cX5_violationsOf 16 = .ok (.aload_n 0, 1) := by decide +kernel
theorem dX5_violationsOf_17 : decode cX5_violationsOf 17 = .ok (.getfield 22, 3) := by decide +kernel
theorem dX5_violationsOf_20 : decode cX5_violationsOf 20 = .ok (.getfield 240, 3) := by decide +kernel
theorem dX5_violationsOf_23 : decode cX5_violationsOf 23 = .ok (.ireturn, 1) := by decide +kernel
theorem dX5_weightOf_0 : decode cX5_weightOf 0 = .ok (.aload_n 1, 1) := by decide +kernel
theorem dX5_weightOf_1 : decode cX5_weightOf 1 = .ok (.getfield 142, 3) := by decide +kernel
theorem dX5_weightOf_4 : decode cX5_weightOf 4 = .ok (.iconst (-1), 1) := by decide +kernel
theorem dX5_weightOf_5 : decode cX5_weightOf 5 = .ok (.if_icmp .ne 10, 3) := by decide +kernel
theorem dX5_weightOf_8 : decode cX5_weightOf 8 = .ok (.aload_n 1, 1) := by decide +kernel
theorem dX5_weightOf_9 : decode cX5_weightOf 9 = .ok (.getfield 148, 3) := by decide +kernel
theorem dX5_weightOf_12 : decode cX5_weightOf 12 = .ok (.goto 7, 3) := by decide +kernel
theorem dX5_weightOf_15 : decode cX5_weightOf 15 = .ok (.aload_n 1, 1) := by decide +kernel
theorem dX5_weightOf_16 : decode cX5_weightOf 16 = .ok (.getfield 142, 3) := by decide +kernel
theorem dX5_weightOf_19 : decode cX5_weightOf 19 = .ok (.istore_n 2, 1) := by decide +kernel
theorem dX5_weightOf_20 : decode cX5_weightOf 20 = .ok (.aload_n 1, 1) := by decide +kernel
theorem dX5_weightOf_21 : decode cX5_weightOf 21 = .ok (.getfield 118, 3) := by decide +kernel
theorem dX5_weightOf_24 : decode cX5_weightOf 24 = .ok (.iconst 1, 1) := by decide +kernel
theorem dX5_weightOf_25 : decode cX5_weightOf 25 = .ok (.aload_n 0, 1) := by decide +kernel
theorem dX5_weightOf_26 : decode cX5_weightOf 26 = .ok (.getfield 10, 3) := by decide +kernel
theorem dX5_weightOf_29 : decode cX5_weightOf 29 = .ok (.getfield 98, 3) := by decide +kernel
theorem dX5_weightOf_32 : decode cX5_weightOf 32 = .ok (.iadd, 1) := by decide +kernel
theorem dX5_weightOf_33 : decode cX5_weightOf 33 = .ok (.iload_n 2, 1) := by decide +kernel
theorem dX5_weightOf_34 : decode cX5_weightOf 34 = .ok (.isub, 1) := by decide +kernel
theorem dX5_weightOf_35 : decode cX5_weightOf 35 = .ok (.imul, 1) := by decide +kernel
theorem dX5_weightOf_36 : decode cX5_weightOf 36 = .ok (.iconst 1, 1) := by decide +kernel
theorem dX5_weightOf_37 : decode cX5_weightOf 37 = .ok (.aload_n 0, 1) := by decide +kernel
theorem dX5_weightOf_38 : decode cX5_weightOf 38 = .ok (.aload_n 1, 1) := by decide +kernel
theorem dX5_weightOf_39 : decode cX5_weightOf 39 = .ok (.invokevirtual 123, 3) := by decide +kernel
theorem dX5_weightOf_42 : decode cX5_weightOf 42 = .ok (.iadd, 1) := by decide +kernel
theorem dX5_weightOf_43 : decode cX5_weightOf 43 = .ok (.imul, 1) := by decide +kernel
theorem dX5_weightOf_44 : decode cX5_weightOf 44 = .ok (.ireturn, 1) := by decide +kernel
theorem dX5_weighAll_0 : decode cX5_weighAll 0 = .ok (.iconst 0, 1) := by decide +kernel
theorem dX5_weighAll_1 : decode cX5_weighAll 1 = .ok (.istore_n 1, 1) := by decide +kernel
theorem dX5_weighAll_2 : decode cX5_weighAll 2 = .ok (.iconst 0, 1) := by decide +kernel
theorem dX5_weighAll_3 : decode cX5_weighAll 3 = .ok (.istore_n 2, 1) := by decide +kernel
theorem dX5_weighAll_4 : decode cX5_weighAll 4 = .ok (.iload_n 2, 1) := by decide +kernel
theorem dX5_weighAll_5 : decode cX5_weighAll 5 = .ok (.bipush 6, 2) := by decide +kernel
theorem dX5_weighAll_7 : decode cX5_weighAll 7 = .ok (.if_icmp .ge 46, 3) := by decide +kernel
theorem dX5_weighAll_10 : decode cX5_weighAll 10 = .ok (.aload_n 0, 1) := by decide +kernel
theorem dX5_weighAll_11 : decode cX5_weighAll 11 = .ok (.getfield 10, 3) := by decide +kernel
theorem dX5_weighAll_14 : decode cX5_weighAll 14 = .ok (.iload_n 2, 1) := by decide +kernel
theorem dX5_weighAll_15 : decode cX5_weighAll 15 = .ok (.invokevirtual 107, 3) := by decide +kernel
theorem dX5_weighAll_18 : decode cX5_weighAll 18 = .ok (.astore_n 3, 1) := by decide +kernel
theorem dX5_weighAll_19 : decode cX5_weighAll 19 = .ok (.aload_n 0, 1) := by decide +kernel
theorem dX5_weighAll_20 : decode cX5_weighAll 20 = .ok (.getfield 42, 3) := by decide +kernel
theorem dX5_weighAll_23 : decode cX5_weighAll 23 = .ok (.iload_n 2, 1) := by decide +kernel
theorem dX5_weighAll_24 : decode cX5_weighAll 24 = .ok (.aload_n 3, 1) := by decide +kernel
theorem dX5_weighAll_25 : decode cX5_weighAll 25 = .ok (.ifnonnull 7, 3) := by decide +kernel
theorem dX5_weighAll_28 : decode cX5_weighAll 28 = .ok (.iconst 0, 1) := by decide +kernel
theorem dX5_weighAll_29 : decode cX5_weighAll 29 = .ok (.goto 8, 3) := by decide +kernel
theorem dX5_weighAll_32 : decode cX5_weighAll 32 = .ok (.aload_n 0, 1) := by decide +kernel
theorem dX5_weighAll_33 : decode cX5_weighAll 33 = .ok (.aload_n 3, 1) := by decide +kernel
theorem dX5_weighAll_34 : decode cX5_weighAll 34 = .ok (.invokevirtual 145, 3) := by decide +kernel
theorem dX5_weighAll_37 : decode cX5_weighAll 37 = .ok (.iastore, 1) := by decide +kernel
theorem dX5_weighAll_38 : decode cX5_weighAll 38 = .ok (.iload_n 1, 1) := by decide +kernel
theorem dX5_weighAll_39 : decode cX5_weighAll 39 = .ok (.aload_n 0, 1) := by decide +kernel
theorem dX5_weighAll_40 : decode cX5_weighAll 40 = .ok (.getfield 42, 3) := by decide +kernel
theorem dX5_weighAll_43 : decode cX5_weighAll 43 = .ok (.iload_n 2, 1) := by decide +kernel
theorem dX5_weighAll_44 : decode cX5_weighAll 44 = .ok (.iaload, 1) := by decide +kernel
theorem dX5_weighAll_45 : decode cX5_weighAll 45 = .ok (.iadd, 1) := by decide +kernel
theorem dX5_weighAll_46 : decode cX5_weighAll 46 = .ok (.istore_n 1, 1) := by decide +kernel
theorem dX5_weighAll_47 : decode cX5_weighAll 47 = .ok (.iinc 2 1, 3) := by decide +kernel
theorem dX5_weighAll_50 : decode cX5_weighAll 50 = .ok (.goto (-46), 3) := by decide +kernel
theorem dX5_weighAll_53 : decode cX5_weighAll 53 = .ok (.iload_n 1, 1) := by decide +kernel
theorem dX5_weighAll_54 : decode cX5_weighAll 54 = .ok (.ireturn, 1) := by decide +kernel
theorem dX5_firstAbove_0 : decode cX5_firstAbove 0 = .ok (.lconst 0, 1) := by decide +kernel
theorem dX5_firstAbove_1 : decode cX5_firstAbove 1 = .ok (.lstore_n 3, 1) := by decide +kernel
theorem dX5_firstAbove_2 : decode cX5_firstAbove 2 = .ok (.iconst 0, 1) := by decide +kernel
theorem dX5_firstAbove_3 : decode cX5_firstAbove 3 = .ok (.istore 5, 2) := by decide +kernel
theorem dX5_firstAbove_5 : decode cX5_firstAbove 5 = .ok (.iload 5, 2) := by decide +kernel
theorem dX5_firstAbove_7 : decode cX5_firstAbove 7 = .ok (.bipush 6, 2) := by decide +kernel
theorem dX5_firstAbove_9 : decode cX5_firstAbove 9 = .ok (.if_icmp .ge 29, 3) := by decide +kernel
theorem dX5_firstAbove_12 : decode cX5_firstAbove 12 = .ok (.lload_n 3, 1) := by decide +kernel
theorem dX5_firstAbove_13 : decode cX5_firstAbove 13 = .ok (.aload_n 0, 1) := by decide +kernel
theorem dX5_firstAbove_14 : decode cX5_firstAbove 14 = .ok (.getfield 42, 3) := by decide +kernel
theorem dX5_firstAbove_17 : decode cX5_firstAbove 17 = .ok (.iload 5, 2) := by decide +kernel
theorem dX5_firstAbove_19 : decode cX5_firstAbove 19 = .ok (.iaload, 1) := by decide +kernel
theorem dX5_firstAbove_20 : decode cX5_firstAbove 20 = .ok (.i2l, 1) := by decide +kernel
theorem dX5_firstAbove_21 : decode cX5_firstAbove 21 = .ok (.ladd, 1) := by decide +kernel
theorem dX5_firstAbove_22 : decode cX5_firstAbove 22 = .ok (.lstore_n 3, 1) := by decide +kernel
theorem dX5_firstAbove_23 : decode cX5_firstAbove 23 = .ok (.lload_n 3, 1) := by decide +kernel
theorem dX5_firstAbove_24 : decode cX5_firstAbove 24 = .ok (.lload_n 1, 1) := by decide +kernel
theorem dX5_firstAbove_25 : decode cX5_firstAbove 25 = .ok (.lcmp, 1) := by decide +kernel
theorem dX5_firstAbove_26 : decode cX5_firstAbove 26 = .ok (.ifCond .le 6, 3) := by decide +kernel
theorem dX5_firstAbove_29 : decode cX5_firstAbove 29 = .ok (.iload 5, 2) := by decide +kernel
theorem dX5_firstAbove_31 : decode cX5_firstAbove 31 = .ok (.ireturn, 1) := by decide +kernel
theorem dX5_firstAbove_32 : decode cX5_firstAbove 32 = .ok (.iinc 5 1, 3) := by decide +kernel
theorem dX5_firstAbove_35 : decode cX5_firstAbove 35 = .ok (.goto (-30), 3) := by decide +kernel
theorem dX5_firstAbove_38 : decode cX5_firstAbove 38 = .ok (.iconst (-1), 1) := by decide +kernel
theorem dX5_firstAbove_39 : decode cX5_firstAbove 39 = .ok (.ireturn, 1) := by decide +kernel
theorem dX5_greatestDivisor_0 : decode cX5_greatestDivisor 0 = .ok (.iload_n 0, 1) := by decide +kernel
theorem dX5_greatestDivisor_1 : decode cX5_greatestDivisor 1 = .ok (.istore_n 2, 1) := by decide +kernel
theorem dX5_greatestDivisor_2 : decode cX5_greatestDivisor 2 = .ok (.iload_n 1, 1) := by decide +kernel
theorem dX5_greatestDivisor_3 : decode cX5_greatestDivisor 3 = .ok (.istore_n 3, 1) := by decide +kernel
theorem dX5_greatestDivisor_4 : decode cX5_greatestDivisor 4 = .ok (.iconst 0, 1) := by decide +kernel
theorem dX5_greatestDivisor_5 : decode cX5_greatestDivisor 5 = .ok (.istore 4, 2) := by decide +kernel
theorem dX5_greatestDivisor_7 : decode cX5_greatestDivisor 7 = .ok (.iload 4, 2) := by decide +kernel
theorem dX5_greatestDivisor_9 : decode cX5_greatestDivisor 9 = .ok (.bipush 64, 2) := by decide +kernel
theorem dX5_greatestDivisor_11 : decode cX5_greatestDivisor 11 = .ok (.if_icmp .ge 23, 3) := by decide +kernel
theorem dX5_greatestDivisor_14 : decode cX5_greatestDivisor 14 = .ok (.iload_n 3, 1) := by decide +kernel
theorem dX5_greatestDivisor_15 : decode cX5_greatestDivisor 15 = .ok (.ifCond .eq 19, 3) := by decide +kernel
theorem dX5_greatestDivisor_18 : decode cX5_greatestDivisor 18 = .ok (.iload_n 2, 1) := by decide +kernel
theorem dX5_greatestDivisor_19 : decode cX5_greatestDivisor 19 = .ok (.iload_n 3, 1) := by decide +kernel
theorem dX5_greatestDivisor_20 : decode cX5_greatestDivisor 20 = .ok (.irem, 1) := by decide +kernel
theorem dX5_greatestDivisor_21 : decode cX5_greatestDivisor 21 = .ok (.istore 5, 2) := by decide +kernel
theorem dX5_greatestDivisor_23 : decode cX5_greatestDivisor 23 = .ok (.iload_n 3, 1) := by decide +kernel
theorem dX5_greatestDivisor_24 : decode cX5_greatestDivisor 24 = .ok (.istore_n 2, 1) := by decide +kernel
theorem dX5_greatestDivisor_25 : decode cX5_greatestDivisor 25 = .ok (.iload 5, 2) := by decide +kernel
theorem dX5_greatestDivisor_27 : decode cX5_greatestDivisor 27 = .ok (.istore_n 3, 1) := by decide +kernel
theorem dX5_greatestDivisor_28 : decode cX5_greatestDivisor 28 = .ok (.iinc 4 1, 3) := by decide +kernel
theorem dX5_greatestDivisor_31 : decode cX5_greatestDivisor 31 = .ok (.goto (-24), 3) := by decide +kernel
theorem dX5_greatestDivisor_34 : decode cX5_greatestDivisor 34 = .ok (.iload_n 2, 1) := by decide +kernel
theorem dX5_greatestDivisor_35 : decode cX5_greatestDivisor 35 = .ok (.ireturn, 1) := by decide +kernel
theorem dX5_hoursOfRound_0 : decode cX5_hoursOfRound 0 = .ok (.iconst 0, 1) := by decide +kernel
theorem dX5_hoursOfRound_1 : decode cX5_hoursOfRound 1 = .ok (.istore_n 2, 1) := by decide +kernel
theorem dX5_hoursOfRound_2 : decode cX5_hoursOfRound 2 = .ok (.iconst 5, 1) := by decide +kernel
theorem dX5_hoursOfRound_3 : decode cX5_hoursOfRound 3 = .ok (.istore_n 3, 1) := by decide +kernel
theorem dX5_hoursOfRound_4 : decode cX5_hoursOfRound 4 = .ok (.iload_n 3, 1) := by decide +kernel
theorem dX5_hoursOfRound_5 : decode cX5_hoursOfRound 5 = .ok (.bipush 22, 2) := by decide +kernel
theorem dX5_hoursOfRound_7 : decode cX5_hoursOfRound 7 = .ok (.if_icmp .gt 25, 3) := by decide +kernel
theorem dX5_hoursOfRound_10 : decode cX5_hoursOfRound 10 = .ok (.aload_n 0, 1) := by decide +kernel
theorem dX5_hoursOfRound_11 : decode cX5_hoursOfRound 11 = .ok (.getfield 10, 3) := by decide +kernel
theorem dX5_hoursOfRound_14 : decode cX5_hoursOfRound 14 = .ok (.iload_n 1, 1) := by decide +kernel
theorem dX5_hoursOfRound_15 : decode cX5_hoursOfRound 15 = .ok (.iload_n 3, 1) := by decide +kernel
theorem dX5_hoursOfRound_16 : decode cX5_hoursOfRound 16 = .ok (.invokevirtual 223, 3) := by decide +kernel
theorem dX5_hoursOfRound_19 : decode cX5_hoursOfRound 19 = .ok (.iconst (-1), 1) := by decide +kernel
theorem dX5_hoursOfRound_20 : decode cX5_hoursOfRound 20 = .ok (.if_icmp .eq 6, 3) := by decide +kernel
theorem dX5_hoursOfRound_23 : decode cX5_hoursOfRound 23 = .ok (.iinc 2 1, 3) := by decide +kernel
theorem dX5_hoursOfRound_26 : decode cX5_hoursOfRound 26 = .ok (.iinc 3 1, 3) := by decide +kernel
theorem dX5_hoursOfRound_29 : decode cX5_hoursOfRound 29 = .ok (.goto (-25), 3) := by decide +kernel
theorem dX5_hoursOfRound_32 : decode cX5_hoursOfRound 32 = .ok (.iload_n 2, 1) := by decide +kernel
theorem dX5_hoursOfRound_33 : decode cX5_hoursOfRound 33 = .ok (.ireturn, 1) := by decide +kernel
theorem dX5_athletesOfRound_0 : decode cX5_athletesOfRound 0 = .ok (.iconst 0, 1) := by decide +kernel
theorem dX5_athletesOfRound_1 : decode cX5_athletesOfRound 1 = .ok (.istore_n 2, 1) := by decide +kernel
theorem dX5_athletesOfRound_2 : decode cX5_athletesOfRound 2 = .ok (.iconst 5, 1) := by decide +kernel
theorem dX5_athletesOfRound_3 : decode cX5_athletesOfRound 3 = .ok (.istore_n 3, 1) := by decide +kernel
theorem dX5_athletesOfRound_4 : decode cX5_athletesOfRound 4 = .ok (.iload_n 3, 1) := by decide +kernel
theorem dX5_athletesOfRound_5 : decode cX5_athletesOfRound 5 = .ok (.bipush 22, 2) := by decide +kernel
theorem dX5_athletesOfRound_7 : decode cX5_athletesOfRound 7 = .ok (.if_icmp .gt 43, 3) := by decide +kernel
theorem dX5_athletesOfRound_10 : decode cX5_athletesOfRound 10 = .ok (.aload_n 0, 1) := by decide +kernel
theorem dX5_athletesOfRound_11 : decode cX5_athletesOfRound 11 = .ok (.getfield 10, 3) := by decide +kernel
theorem dX5_athletesOfRound_14 : decode cX5_athletesOfRound 14 = .ok (.iload_n 1, 1) := by decide +kernel
theorem dX5_athletesOfRound_15 : decode cX5_athletesOfRound 15 = .ok (.iload_n 3, 1) := by decide +kernel
theorem dX5_athletesOfRound_16 : decode cX5_athletesOfRound 16 = .ok (.invokevirtual 223, 3) := by decide +kernel
theorem dX5_athletesOfRound_19 : decode cX5_athletesOfRound 19 = .ok (.istore 4, 2) := by decide +kernel
theorem dX5_athletesOfRound_21 : decode cX5_athletesOfRound 21 = .ok (.iload 4, 2) := by decide +kernel
theorem dX5_athletesOfRound_23 : decode cX5_athletesOfRound 23 = .ok (.iconst (-1), 1) := by decide +kernel
theorem dX5_athletesOfRound_24 : decode cX5_athletesOfRound 24 = .ok (.if_icmp .eq 20, 3) := by decide +kernel
theorem dX5_athletesOfRound_27 : decode cX5_athletesOfRound 27 = .ok (.iload_n 2, 1) := by decide +kernel
theorem dX5_athletesOfRound_28 : decode cX5_athletesOfRound 28 = .ok (.aload_n 0, 1) := by decide +kernel
theorem dX5_athletesOfRound_29 : decode cX5_athletesOfRound 29 = .ok (.getfield 10, 3) := by decide +kernel
theorem dX5_athletesOfRound_32 : decode cX5_athletesOfRound 32 = .ok (.iload_n 1, 1) := by decide +kernel
theorem dX5_athletesOfRound_33 : decode cX5_athletesOfRound 33 = .ok (.iload_n 3, 1) := by decide +kernel
theorem dX5_athletesOfRound_34 : decode cX5_athletesOfRound 34 = .ok (.iload 4, 2) := by decide +kernel
theorem dX5_athletesOfRound_36 : decode cX5_athletesOfRound 36 = .ok (.invokevirtual 226, 3) := by decide +kernel
theorem dX5_athletesOfRound_39 : decode cX5_athletesOfRound 39 = .ok (.invokestatic 254, 3) := by decide +kernel
theorem dX5_athletesOfRound_42 : decode cX5_athletesOfRound 42 = .ok (.iadd, 1) := by decide +kernel
theorem dX5_athletesOfRound_43 : decode cX5_athletesOfRound 43 = .ok (.istore_n 2, 1) := by decide +kernel
theorem dX5_athletesOfRound_44 : decode cX5_athletesOfRound 44 = .ok (.iinc 3 1, 3) := by decide +kernel
theorem dX5_athletesOfRound_47 : decode cX5_athletesOfRound 47 = .ok (.goto (-43), 3) := by decide +kernel
theorem dX5_athletesOfRound_50 : decode cX5_athletesOfRound 50 = .ok (.iload_n 2, 1) := by decide +kernel
theorem dX5_athletesOfRound_51 : decode cX5_athletesOfRound 51 = .ok (.ireturn, 1) := by decide +kernel
theorem dX5_canBeRisk_0 : decode cX5_canBeRisk 0 = .ok (.iload_n 0, 1) := by decide +kernel
theorem dX5_canBeRisk_1 : decode cX5_canBeRisk 1 = .ok (.iconst 1, 1) := by decide +kernel
theorem dX5_canBeRisk_2 : decode cX5_canBeRisk 2 = .ok (.if_icmp .lt 13, 3) := by decide +kernel
theorem dX5_canBeRisk_5 : decode cX5_canBeRisk 5 = .ok (.iload_n 0, 1) := by decide +kernel
theorem dX5_canBeRisk_6 : decode cX5_canBeRisk 6 = .ok (.bipush 9, 2) := by decide +kernel
theorem dX5_canBeRisk_8 : decode cX5_canBeRisk 8 = .ok (.if_icmp .gt 7, 3) := by decide +kernel
theorem dX5_canBeRisk_11 : decode cX5_canBeRisk 11 = .ok (.iconst 1, 1) := by decide +kernel
theorem dX5_canBeRisk_12 : decode cX5_canBeRisk 12 = .ok (.goto 4, 3) := by decide +kernel
theorem dX5_canBeRisk_15 : decode cX5_canBeRisk 15 = .ok (.iconst 0, 1) := by decide +kernel
theorem dX5_canBeRisk_16 : decode cX5_canBeRisk 16 = .ok (.ireturn, 1) := by decide +kernel
theorem dX5_isSetting_0 : decode cX5_isSetting 0 = .ok (.iload_n 0, 1) := by decide +kernel
theorem dX5_isSetting_1 : decode cX5_isSetting 1 = .ok (.ifCond .lt 13, 3) := by decide +kernel
theorem dX5_isSetting_4 : decode cX5_isSetting 4 = .ok (.iload_n 0, 1) := by decide +kernel
theorem dX5_isSetting_5 : decode cX5_isSetting 5 = .ok (.bipush 6, 2) := by decide +kernel
theorem dX5_isSetting_7 : decode cX5_isSetting 7 = .ok (.if_icmp .ge 7, 3) := by decide +kernel
theorem dX5_isSetting_10 : decode cX5_isSetting 10 = .ok (.iconst 1, 1) := by decide +kernel
theorem dX5_isSetting_11 : decode cX5_isSetting 11 = .ok (.goto 4, 3) := by decide +kernel
theorem dX5_isSetting_14 : decode cX5_isSetting 14 = .ok (.iconst 0, 1) := by decide +kernel
theorem dX5_isSetting_15 : decode cX5_isSetting 15 = .ok (.ireturn, 1) := by decide +kernel
theorem dX5_canBeSetting_0 : decode cX5_canBeSetting 0 = .ok (.iload_n 0, 1) := by decide +kernel
theorem dX5_canBeSetting_1 : decode cX5_canBeSetting 1 = .ok (.invokestatic 257, 3) := by decide +kernel
theorem dX5_canBeSetting_4 : decode cX5_canBeSetting 4 = .ok (.ifCond .eq 25, 3) := by decide +kernel
theorem dX5_canBeSetting_7 : decode cX5_canBeSetting 7 = .ok (.iload_n 1, 1) := by decide +kernel
theorem dX5_canBeSetting_8 : decode cX5_canBeSetting 8 = .ok (.getstatic 260, 3) := by decide +kernel
theorem dX5_canBeSetting_11 : decode cX5_canBeSetting 11 = .ok (.iload_n 0, 1) := by decide +kernel
theorem dX5_canBeSetting_12 : decode cX5_canBeSetting 12 = .ok (.iaload, 1) := by decide +kernel
theorem dX5_canBeSetting_13 : decode cX5_canBeSetting 13 = .ok (.if_icmp .lt 16, 3) := by decide +kernel
theorem dX5_canBeSetting_16 : decode cX5_canBeSetting 16 = .ok (.iload_n 1, 1) := by decide +kernel
theorem dX5_canBeSetting_17 : decode cX5_canBeSetting 17 = .ok (.getstatic 263, 3) := by decide +kernel
theorem dX5_canBeSetting_20 : decode cX5_canBeSetting 20 = .ok (.iload_n 0, 1) := by decide +kernel
theorem dX5_canBeSetting_21 : decode cX5_canBeSetting 21 = .ok (.iaload, 1) := by decide +kernel
theorem dX5_canBeSetting_22 : decode cX5_canBeSetting 22 = .ok (.if_icmp .gt 7, 3) := by decide +kernel
theorem dX5_canBeSetting_25 : decode cX5_canBeSetting 25 = .ok (.iconst 1, 1) := by decide +kernel
theorem dX5_canBeSetting_26 : decode cX5_canBeSetting 26 = .ok (.goto 4, 3) := by decide +kernel
theorem dX5_canBeSetting_29 : decode cX5_canBeSetting 29 = .ok (.iconst 0, 1) := by decide +kernel
theorem dX5_canBeSetting_30 : decode cX5_canBeSetting 30 = .ok (.ireturn, 1) := by decide +kernel
theorem dX5_canBeDay_0 : decode cX5_canBeDay 0 = .ok (.iload_n 0, 1) := by decide +kernel
theorem dX5_canBeDay_1 : decode cX5_canBeDay 1 = .ok (.ifCond .lt 14, 3) := by decide +kernel
theorem dX5_canBeDay_4 : decode cX5_canBeDay 4 = .ok (.iload_n 0, 1) := by decide +kernel
theorem dX5_canBeDay_5 : decode cX5_canBeDay 5 = .ok (.sipush 999, 3) := by decide +kernel
theorem dX5_canBeDay_8 : decode cX5_canBeDay 8 = .ok (.if_icmp .gt 7, 3) := by decide +kernel
theorem dX5_canBeDay_11 : decode cX5_canBeDay 11 = .ok (.iconst 1, 1) := by decide +kernel
theorem dX5_canBeDay_12 : decode cX5_canBeDay 12 = .ok (.goto 4, 3) := by decide +kernel
theorem dX5_canBeDay_15 : decode cX5_canBeDay 15 = .ok (.iconst 0, 1) := by decide +kernel
theorem dX5_canBeDay_16 : decode cX5_canBeDay 16 = .ok (.ireturn, 1) := by decide +kernel
theorem dX5_canBeHour_0 : decode cX5_canBeHour 0 = .ok (.iload_n 0, 1) := by decide +kernel
theorem dX5_canBeHour_1 : decode cX5_canBeHour 1 = .ok (.ifCond .lt 13, 3) := by decide +kernel
theorem dX5_canBeHour_4 : decode cX5_canBeHour 4 = .ok (.iload_n 0, 1) := by decide +kernel
theorem dX5_canBeHour_5 : decode cX5_canBeHour 5 = .ok (.bipush 24, 2) := by decide +kernel
theorem dX5_canBeHour_7 : decode cX5_canBeHour 7 = .ok (.if_icmp .ge 7, 3) := by decide +kernel
theorem dX5_canBeHour_10 : decode cX5_canBeHour 10 = .ok (.iconst 1, 1) := by decide +kernel
theorem dX5_canBeHour_11 : decode cX5_canBeHour 11 = .ok (.goto 4, 3) := by decide +kernel
theorem dX5_canBeHour_14 : decode cX5_canBeHour 14 = .ok (.iconst 0, 1) := by decide +kernel
theorem dX5_canBeHour_15 : decode cX5_canBeHour 15 = .ok (.ireturn, 1) := by decide +kernel
theorem dX5_canBeFiledDay_0 : decode cX5_canBeFiledDay 0 = .ok (.iload_n 0, 1) := by decide +kernel
theorem dX5_canBeFiledDay_1 : decode cX5_canBeFiledDay 1 = .ok (.ifCond .lt 14, 3) := by decide +kernel
theorem dX5_canBeFiledDay_4 : decode cX5_canBeFiledDay 4 = .ok (.iload_n 0, 1) := by decide +kernel
theorem dX5_canBeFiledDay_5 : decode cX5_canBeFiledDay 5 = .ok (.sipush 1100, 3) := by decide +kernel
theorem dX5_canBeFiledDay_8 : decode cX5_canBeFiledDay 8 = .ok (.if_icmp .ge 7, 3) := by decide +kernel
theorem dX5_canBeFiledDay_11 : decode cX5_canBeFiledDay 11 = .ok (.iconst 1, 1) := by decide +kernel
theorem dX5_canBeFiledDay_12 : decode cX5_canBeFiledDay 12 = .ok (.goto 4, 3) := by decide +kernel
theorem dX5_canBeFiledDay_15 : decode cX5_canBeFiledDay 15 = .ok (.iconst 0, 1) := by decide +kernel
theorem dX5_canBeFiledDay_16 : decode cX5_canBeFiledDay 16 = .ok (.ireturn, 1) := by decide +kernel
theorem dX5_canBeSpan_0 : decode cX5_canBeSpan 0 = .ok (.iload_n 0, 1) := by decide +kernel
theorem dX5_canBeSpan_1 : decode cX5_canBeSpan 1 = .ok (.ifCond .lt 27, 3) := by decide +kernel
theorem dX5_canBeSpan_4 : decode cX5_canBeSpan 4 = .ok (.iload_n 1, 1) := by decide +kernel
theorem dX5_canBeSpan_5 : decode cX5_canBeSpan 5 = .ok (.iload_n 0, 1) := by decide +kernel
theorem dX5_canBeSpan_6 : decode cX5_canBeSpan 6 = .ok (.if_icmp .lt 22, 3) := by decide +kernel
theorem dX5_canBeSpan_9 : decode cX5_canBeSpan 9 = .ok (.iload_n 1, 1) := by decide +kernel
theorem dX5_canBeSpan_10 : decode cX5_canBeSpan 10 = .ok (.sipush 1100, 3) := by decide +kernel
theorem dX5_canBeSpan_13 : decode cX5_canBeSpan 13 = .ok (.if_icmp .ge 15, 3) := by decide +kernel
theorem dX5_canBeSpan_16 : decode cX5_canBeSpan 16 = .ok (.iload_n 1, 1) := by decide +kernel
theorem dX5_canBeSpan_17 : decode cX5_canBeSpan 17 = .ok (.iload_n 0, 1) := by decide +kernel
theorem dX5_canBeSpan_18 : decode cX5_canBeSpan 18 = .ok (.isub, 1) := by decide +kernel
theorem dX5_canBeSpan_19 : decode cX5_canBeSpan 19 = .ok (.bipush 60, 2) := by decide +kernel
theorem dX5_canBeSpan_21 : decode cX5_canBeSpan 21 = .ok (.if_icmp .ge 7, 3) := by decide +kernel
theorem dX5_canBeSpan_24 : decode cX5_canBeSpan 24 = .ok (.iconst 1, 1) := by decide +kernel
theorem dX5_canBeSpan_25 : decode cX5_canBeSpan 25 = .ok (.goto 4, 3) := by decide +kernel
theorem dX5_canBeSpan_28 : decode cX5_canBeSpan 28 = .ok (.iconst 0, 1) := by decide +kernel
theorem dX5_canBeSpan_29 : decode cX5_canBeSpan 29 = .ok (.ireturn, 1) := by decide +kernel
theorem dX5_canBeFiledHour_0 : decode cX5_canBeFiledHour 0 = .ok (.iload_n 0, 1) := by decide +kernel
theorem dX5_canBeFiledHour_1 : decode cX5_canBeFiledHour 1 = .ok (.iconst 5, 1) := by decide +kernel
theorem dX5_canBeFiledHour_2 : decode cX5_canBeFiledHour 2 = .ok (.if_icmp .lt 13, 3) := by decide +kernel
theorem dX5_canBeFiledHour_5 : decode cX5_canBeFiledHour 5 = .ok (.iload_n 0, 1) := by decide +kernel
theorem dX5_canBeFiledHour_6 : decode cX5_canBeFiledHour 6 = .ok (.bipush 22, 2) := by decide +kernel
theorem dX5_canBeFiledHour_8 : decode cX5_canBeFiledHour 8 = .ok (.if_icmp .gt 7, 3) := by decide +kernel
theorem dX5_canBeFiledHour_11 : decode cX5_canBeFiledHour 11 = .ok (.iconst 1, 1) := by decide +kernel
theorem dX5_canBeFiledHour_12 : decode cX5_canBeFiledHour 12 = .ok (.goto 4, 3) := by decide +kernel
theorem dX5_canBeFiledHour_15 : decode cX5_canBeFiledHour 15 = .ok (.iconst 0, 1) := by decide +kernel
theorem dX5_canBeFiledHour_16 : decode cX5_canBeFiledHour 16 = .ok (.ireturn, 1) := by decide +kernel
theorem dX5_canBePlace_0 : decode cX5_canBePlace 0 = .ok (.iload_n 0, 1) := by decide +kernel
theorem dX5_canBePlace_1 : decode cX5_canBePlace 1 = .ok (.ifCond .lt 13, 3) := by decide +kernel
theorem dX5_canBePlace_4 : decode cX5_canBePlace 4 = .ok (.iload_n 0, 1) := by decide +kernel
theorem dX5_canBePlace_5 : decode cX5_canBePlace 5 = .ok (.bipush 10, 2) := by decide +kernel
theorem dX5_canBePlace_7 : decode cX5_canBePlace 7 = .ok (.if_icmp .ge 7, 3) := by decide +kernel
theorem dX5_canBePlace_10 : decode cX5_canBePlace 10 = .ok (.iconst 1, 1) := by decide +kernel
theorem dX5_canBePlace_11 : decode cX5_canBePlace 11 = .ok (.goto 4, 3) := by decide +kernel
theorem dX5_canBePlace_14 : decode cX5_canBePlace 14 = .ok (.iconst 0, 1) := by decide +kernel
theorem dX5_canBePlace_15 : decode cX5_canBePlace 15 = .ok (.ireturn, 1) := by decide +kernel
theorem dX6_init_0 : decode cX6_init 0 = .ok (.aload_n 0, 1) := by decide +kernel
theorem dX6_init_1 : decode cX6_init 1 = .ok (.invokespecial 1, 3) := by decide +kernel
theorem dX6_init_4 : decode cX6_init 4 = .ok (.aload_n 0, 1) := by decide +kernel
theorem dX6_init_5 : decode cX6_init 5 = .ok (.sipush 7737, 3) := by decide +kernel
theorem dX6_init_8 : decode cX6_init 8 = .ok (.newarray .int, 2) := by decide +kernel
theorem dX6_init_10 : decode cX6_init 10 = .ok (.putfield 7, 3) := by decide +kernel
theorem dX6_init_13 : decode cX6_init 13 = .ok (.aload_n 0, 1) := by decide +kernel
theorem dX6_init_14 : decode cX6_init 14 = .ok (.sipush 7737, 3) := by decide +kernel
theorem dX6_init_17 : decode cX6_init 17 = .ok (.newarray .int, 2) := by decide +kernel
theorem dX6_init_19 : decode cX6_init 19 = .ok (.putfield 13, 3) := by decide +kernel
theorem dX6_init_22 : decode cX6_init 22 = .ok (.aload_n 0, 1) := by decide +kernel
theorem dX6_init_23 : decode cX6_init 23 = .ok (.bipush 6, 2) := by decide +kernel
theorem dX6_init_25 : decode cX6_init 25 = .ok (.newarray .int, 2) := by decide +kernel
theorem dX6_init_27 : decode cX6_init 27 = .ok (.dup, 1) := by decide +kernel
theorem dX6_init_28 : decode cX6_init 28 = .ok (.iconst 0, 1) := by decide +kernel
theorem dX6_init_29 : decode cX6_init 29 = .ok (.iconst 1, 1) := by decide +kernel
theorem dX6_init_30 : decode cX6_init 30 = .ok (.iastore, 1) := by decide +kernel
theorem dX6_init_31 : decode cX6_init 31 = .ok (.dup, 1) := by decide +kernel
theorem dX6_init_32 : decode cX6_init 32 = .ok (.iconst 1, 1) := by decide +kernel
theorem dX6_init_33 : decode cX6_init 33 = .ok (.iconst 2, 1) := by decide +kernel
theorem dX6_init_34 : decode cX6_init 34 = .ok (.iastore, 1) := by decide +kernel
theorem dX6_init_35 : decode cX6_init 35 = .ok (.dup, 1) := by decide +kernel
theorem dX6_init_36 : decode cX6_init 36 = .ok (.iconst 2, 1) := by decide +kernel
theorem dX6_init_37 : decode cX6_init 37 = .ok (.iconst 0, 1) := by decide +kernel
theorem dX6_init_38 : decode cX6_init 38 = .ok (.iastore, 1) := by decide +kernel
theorem dX6_init_39 : decode cX6_init 39 = .ok (.dup, 1) := by decide +kernel
theorem dX6_init_40 : decode cX6_init 40 = .ok (.iconst 3, 1) := by decide +kernel
theorem dX6_init_41 : decode cX6_init 41 = .ok (.iconst 0, 1) := by decide +kernel
theorem dX6_init_42 : decode cX6_init 42 = .ok (.iastore, 1) := by decide +kernel
theorem dX6_init_43 : decode cX6_init 43 = .ok (.dup, 1) := by decide +kernel
theorem dX6_init_44 : decode cX6_init 44 = .ok (.iconst 4, 1) := by decide +kernel
theorem dX6_init_45 : decode cX6_init 45 = .ok (.iconst 0, 1) := by decide +kernel
theorem dX6_init_46 : decode cX6_init 46 = .ok (.iastore, 1) := by decide +kernel
theorem dX6_init_47 : decode cX6_init 47 = .ok (.dup, 1) := by decide +kernel
theorem dX6_init_48 : decode cX6_init 48 = .ok (.iconst 5, 1) := by decide +kernel
theorem dX6_init_49 : decode cX6_init 49 = .ok (.iconst 1, 1) := by decide +kernel
theorem dX6_init_50 : decode cX6_init 50 = .ok (.iastore, 1) := by decide +kernel
theorem dX6_init_51 : decode cX6_init 51 = .ok (.putfield 16, 3) := by decide +kernel
theorem dX6_init_54 : decode cX6_init 54 = .ok (.aload_n 0, 1) := by decide +kernel
theorem dX6_init_55 : decode cX6_init 55 = .ok (.bipush 6, 2) := by decide +kernel
theorem dX6_init_57 : decode cX6_init 57 = .ok (.newarray .int, 2) := by decide +kernel
theorem dX6_init_59 : decode cX6_init 59 = .ok (.dup, 1) := by decide +kernel
theorem dX6_init_60 : decode cX6_init 60 = .ok (.iconst 0, 1) := by decide +kernel
theorem dX6_init_61 : decode cX6_init 61 = .ok (.sipush 400, 3) := by decide +kernel
theorem dX6_init_64 : decode cX6_init 64 = .ok (.iastore, 1) := by decide +kernel
theorem dX6_init_65 : decode cX6_init 65 = .ok (.dup, 1) := by decide +kernel
theorem dX6_init_66 : decode cX6_init 66 = .ok (.iconst 1, 1) := by decide +kernel
theorem dX6_init_67 : decode cX6_init 67 = .ok (.iconst 5, 1) := by decide +kernel
theorem dX6_init_68 : decode cX6_init 68 = .ok (.iastore, 1) := by decide +kernel
theorem dX6_init_69 : decode cX6_init 69 = .ok (.dup, 1) := by decide +kernel
theorem dX6_init_70 : decode cX6_init 70 = .ok (.iconst 2, 1) := by decide +kernel
theorem dX6_init_71 : decode cX6_init 71 = .ok (.bipush 30, 2) := by decide +kernel
theorem dX6_init_73 : decode cX6_init 73 = .ok (.iastore, 1) := by decide +kernel
theorem dX6_init_74 : decode cX6_init 74 = .ok (.dup, 1) := by decide +kernel
theorem dX6_init_75 : decode cX6_init 75 = .ok (.iconst 3, 1) := by decide +kernel
theorem dX6_init_76 : decode cX6_init 76 = .ok (.bipush 48, 2) := by decide +kernel
theorem dX6_init_78 : decode cX6_init 78 = .ok (.iastore, 1) := by decide +kernel
theorem dX6_init_79 : decode cX6_init 79 = .ok (.dup, 1) := by decide +kernel
theorem dX6_init_80 : decode cX6_init 80 = .ok (.iconst 4, 1) := by decide +kernel
theorem dX6_init_81 : decode cX6_init 81 = .ok (.bipush 9, 2) := by decide +kernel
theorem dX6_init_83 : decode cX6_init 83 = .ok (.iastore, 1) := by decide +kernel
theorem dX6_init_84 : decode cX6_init 84 = .ok (.dup, 1) := by decide +kernel
theorem dX6_init_85 : decode cX6_init 85 = .ok (.iconst 5, 1) := by decide +kernel
theorem dX6_init_86 : decode cX6_init 86 = .ok (.bipush 60, 2) := by decide +kernel
theorem dX6_init_88 : decode cX6_init 88 = .ok (.iastore, 1) := by decide +kernel
theorem dX6_init_89 : decode cX6_init 89 = .ok (.putfield 19, 3) := by decide +kernel
theorem dX6_init_92 : decode cX6_init 92 = .ok (.aload_n 0, 1) := by decide +kernel
theorem dX6_init_93 : decode cX6_init 93 = .ok (.sipush 400, 3) := by decide +kernel
theorem dX6_init_96 : decode cX6_init 96 = .ok (.newarray .int, 2) := by decide +kernel
theorem dX6_init_98 : decode cX6_init 98 = .ok (.putfield 22, 3) := by decide +kernel
theorem dX6_init_101 : decode cX6_init 101 = .ok (.aload_n 0, 1) := by decide +kernel
theorem dX6_init_102 : decode cX6_init 102 = .ok (.bipush 6, 2) := by decide +kernel
theorem dX6_init_104 : decode cX6_init 104 = .ok (.newarray .int, 2) := by decide +kernel
theorem dX6_init_106 : decode cX6_init 106 = .ok (.putfield 25, 3) := by decide +kernel
theorem dX6_init_109 : decode cX6_init 109 = .ok (.aload_n 0, 1) := by decide +kernel
theorem dX6_init_110 : decode cX6_init 110 = .ok (.bipush 61, 2) := by decide +kernel
theorem dX6_init_112 : decode cX6_init 112 = .ok (.newarray .boolean, 2) := by decide +kernel
theorem dX6_init_114 : decode cX6_init 114 = .ok (.putfield 28, 3) := by decide +kernel
theorem dX6_init_117 : decode cX6_init 117 = .ok (.aload_n 0, 1) := by decide +kernel
theorem dX6_init_118 : decode cX6_init 118 = .ok (.bipush 61, 2) := by decide +kernel
theorem dX6_init_120 : decode cX6_init 120 = .ok (.newarray .boolean, 2) := by decide +kernel
theorem dX6_init_122 : decode cX6_init 122 = .ok (.putfield 32, 3) := by decide +kernel
theorem dX6_init_125 : decode cX6_init 125 = .ok (.aload_n 0, 1) := by decide +kernel
theorem dX6_init_126 : decode cX6_init 126 = .ok (.bipush 61, 2) := by decide +kernel
theorem dX6_init_128 : decode cX6_init 128 = .ok (.newarray .int, 2) := by decide +kernel
theorem dX6_init_130 : decode cX6_init 130 = .ok (.putfield 35, 3) := by decide +kernel
theorem dX6_init_133 : decode cX6_init 133 = .ok (.aload_n 0, 1) := by decide +kernel
theorem dX6_init_134 : decode cX6_init 134 = .ok (.getfield 7, 3) := by decide +kernel
theorem dX6_init_137 : decode cX6_init 137 = .ok (.iconst 3, 1) := by decide +kernel
theorem dX6_init_138 : decode cX6_init 138 = .ok (.bipush 120, 2) := by decide +kernel
theorem dX6_init_140 : decode cX6_init 140 = .ok (.iastore, 1) := by decide +kernel
theorem dX6_init_141 : decode cX6_init 141 = .ok (.aload_n 0, 1) := by decide +kernel
theorem dX6_init_142 : decode cX6_init 142 = .ok (.getfield 7, 3) := by decide +kernel
theorem dX6_init_145 : decode cX6_init 145 = .ok (.iconst 4, 1) := by decide +kernel
theorem dX6_init_146 : decode cX6_init 146 = .ok (.iconst 3, 1) := by decide +kernel
theorem dX6_init_147 : decode cX6_init 147 = .ok (.iastore, 1) := by decide +kernel
theorem dX6_init_148 : decode cX6_init 148 = .ok (.aload_n 0, 1) := by decide +kernel
theorem dX6_init_149 : decode cX6_init 149 = .ok (.getfield 7, 3) := by decide +kernel
theorem dX6_init_152 : decode cX6_init 152 = .ok (.iconst 5, 1) := by decide +kernel
theorem dX6_init_153 : decode cX6_init 153 = .ok (.iconst 3, 1) := by decide +kernel
theorem dX6_init_154 : decode cX6_init 154 = .ok (.iastore, 1) := by decide +kernel
theorem dX6_init_155 : decode cX6_init 155 = .ok (.aload_n 0, 1) := by decide +kernel
theorem dX6_init_156 : decode cX6_init 156 = .ok (.getfield 7, 3) := by decide +kernel
theorem dX6_init_159 : decode cX6_init 159 = .ok (.bipush 6, 2) := by decide +kernel
theorem dX6_init_161 : decode cX6_init 161 = .ok (.bipush 24, 2) := by decide +kernel
theorem dX6_init_163 : decode cX6_init 163 = .ok (.iastore, 1) := by decide +kernel
theorem dX6_init_164 : decode cX6_init 164 = .ok (.aload_n 0, 1) := by decide +kernel
theorem dX6_init_165 : decode cX6_init 165 = .ok (.getfield 7, 3) := by decide +kernel
theorem dX6_init_168 : decode cX6_init 168 = .ok (.bipush 7, 2) := by decide +kernel
theorem dX6_init_170 : decode cX6_init 170 = .ok (.iconst 2, 1) := by decide +kernel
theorem dX6_init_171 : decode cX6_init 171 = .ok (.iastore, 1) := by decide +kernel
theorem dX6_init_172 : decode cX6_init 172 = .ok (.aload_n 0, 1) := by decide +kernel
theorem dX6_init_173 : decode cX6_init 173 = .ok (.getfield 7, 3) := by decide +kernel
theorem dX6_init_176 : decode cX6_init 176 = .ok (.bipush 8, 2) := by decide +kernel
theorem dX6_init_178 : decode cX6_init 178 = .ok (.bipush 14, 2) := by decide +kernel
theorem dX6_init_180 : decode cX6_init 180 = .ok (.iastore, 1) := by decide +kernel
theorem dX6_init_181 : decode cX6_init 181 = .ok (.return_, 1) := by decide +kernel
theorem dX6_thrown_0 : decode cX6_thrown 0 = .ok (.aload_n 0, 1) := by decide +kernel
theorem dX6_thrown_1 : decode cX6_thrown 1 = .ok (.getfield 38, 3) := by decide +kernel
theorem dX6_thrown_4 : decode cX6_thrown 4 = .ok (.ireturn, 1) := by decide +kernel
theorem dX6_in_0 : decode cX6_in 0 = .ok (.iload_n 0, 1) := by decide +kernel
theorem dX6_in_1 : decode cX6_in 1 = .ok (.iload_n 1, 1) := by decide +kernel
theorem dX6_in_2 : decode cX6_in 2 = .ok (.if_icmp .lt 12, 3) := by decide +kernel
theorem dX6_in_5 : decode cX6_in 5 = .ok (.iload_n 0, 1) := by decide +kernel
theorem dX6_in_6 : decode cX6_in 6 = .ok (.iload_n 2, 1) := by decide +kernel
theorem dX6_in_7 : decode cX6_in 7 = .ok (.if_icmp .gt 7, 3) := by decide +kernel
theorem dX6_in_10 : decode cX6_in 10 = .ok (.iconst 1, 1) := by decide +kernel
theorem dX6_in_11 : decode cX6_in 11 = .ok (.goto 4, 3) := by decide +kernel
theorem dX6_in_14 : decode cX6_in 14 = .ok (.iconst 0, 1) := by decide +kernel
theorem dX6_in_15 : decode cX6_in 15 = .ok (.ireturn, 1) := by decide +kernel
theorem dX6_isAthlete_0 : decode cX6_isAthlete 0 = .ok (.iload_n 1, 1) := by decide +kernel
theorem dX6_isAthlete_1 : decode cX6_isAthlete 1 = .ok (.iconst 0, 1) := by decide +kernel
theorem dX6_isAthlete_2 : decode cX6_isAthlete 2 = .ok (.aload_n 0, 1) := by decide +kernel
theorem dX6_isAthlete_3 : decode cX6_isAthlete 3 = .ok (.getfield 7, 3) := by decide +kernel
theorem dX6_isAthlete_6 : decode cX6_isAthlete 6 = .ok (.iconst 2, 1) := by decide +kernel
theorem dX6_isAthlete_7 : decode cX6_isAthlete 7 = .ok (.iaload, 1) := by decide +kernel
theorem dX6_isAthlete_8 : decode cX6_isAthlete 8 = .ok (.iconst 1, 1) := by decide +kernel
theorem dX6_isAthlete_9 : decode cX6_isAthlete 9 = .ok (.isub, 1) := by decide +kernel
theorem dX6_isAthlete_10 : decode cX6_isAthlete 10 = .ok (.invokestatic 42, 3) := by decide +kernel
theorem dX6_isAthlete_13 : decode cX6_isAthlete 13 = .ok (.ireturn, 1) := by decide +kernel
theorem dX6_cell_0 : decode cX6_cell 0 = .ok (.bipush 9, 2) := by decide +kernel
theorem dX6_cell_2 : decode cX6_cell 2 = .ok (.sipush 1288, 3) := by decide +kernel
theorem dX6_cell_5 : decode cX6_cell 5 = .ok (.iload_n 0, 1) := by decide +kernel
theorem dX6_cell_6 : decode cX6_cell 6 = .ok (.imul, 1) := by decide +kernel
theorem dX6_cell_7 : decode cX6_cell 7 = .ok (.iadd, 1) := by decide +kernel
theorem dX6_cell_8 : decode cX6_cell 8 = .ok (.iload_n 1, 1) := by decide +kernel
theorem dX6_cell_9 : decode cX6_cell 9 = .ok (.iadd, 1) := by decide +kernel
theorem dX6_cell_10 : decode cX6_cell 10 = .ok (.ireturn, 1) := by decide +kernel
theorem dX6_its_0 : decode cX6_its 0 = .ok (.aload_n 0, 1) := by decide +kernel
theorem dX6_its_1 : decode cX6_its 1 = .ok (.getfield 7, 3) := by decide +kernel
theorem dX6_its_4 : decode cX6_its 4 = .ok (.iload_n 1, 1) := by decide +kernel
theorem dX6_its_5 : decode cX6_its 5 = .ok (.iload_n 2, 1) := by decide +kernel
theorem dX6_its_6 : decode cX6_its 6 = .ok (.invokestatic 46, 3) := by decide +kernel
theorem dX6_its_9 : decode cX6_its 9 = .ok (.iaload, 1) := by decide +kernel
theorem dX6_its_10 : decode cX6_its 10 = .ok (.ireturn, 1) := by decide +kernel
theorem dX6_fails_0 : decode cX6_fails 0 = .ok (.aload_n 0, 1) := by decide +kernel
theorem dX6_fails_1 : decode cX6_fails 1 = .ok (.iload_n 1, 1) := by decide +kernel
theorem dX6_fails_2 : decode cX6_fails 2 = .ok (.bipush 7, 2) := by decide +kernel
theorem dX6_fails_4 : decode cX6_fails 4 = .ok (.invokevirtual 50, 3) := by decide +kernel
theorem dX6_fails_7 : decode cX6_fails 7 = .ok (.istore 4, 2) := by decide +kernel
theorem dX6_fails_9 : decode cX6_fails 9 = .ok (.iload 4, 2) := by decide +kernel
theorem dX6_fails_11 : decode cX6_fails 11 = .ok (.bipush 60, 2) := by decide +kernel
theorem dX6_fails_13 : decode cX6_fails 13 = .ok (.if_icmp .ne 5, 3) := by decide +kernel
theorem dX6_fails_16 : decode cX6_fails 16 = .ok (.iconst 0, 1) := by decide +kernel
theorem dX6_fails_17 : decode cX6_fails 17 = .ok (.ireturn, 1) := by decide +kernel
theorem dX6_fails_18 : decode cX6_fails 18 = .ok (.aload_n 0, 1) := by decide +kernel
theorem dX6_fails_19 : decode cX6_fails 19 = .ok (.getfield 7, 3) := by decide +kernel
theorem dX6_fails_22 : decode cX6_fails 22 = .ok (.iload_n 1, 1) := by decide +kernel
theorem dX6_fails_23 : decode cX6_fails 23 = .ok (.bipush 8, 2) := by decide +kernel
theorem dX6_fails_25 : decode cX6_fails 25 = .ok (.iconst 3, 1) := by decide +kernel
theorem dX6_fails_26 : decode cX6_fails 26 = .ok (.iload 4, 2) := by decide +kernel
theorem dX6_fails_28 : decode cX6_fails 28 = .ok (.imul, 1) := by decide +kernel
theorem dX6_fails_29 : decode cX6_fails 29 = .ok (.iadd, 1) := by decide +kernel
theorem dX6_fails_30 : decode cX6_fails 30 = .ok (.invokestatic 46, 3) := by decide +kernel
theorem dX6_fails_33 : decode cX6_fails 33 = .ok (.iload_n 2, 1) := by decide +kernel
theorem dX6_fails_34 : decode cX6_fails 34 = .ok (.iastore, 1) := by decide +kernel
theorem dX6_fails_35 : decode cX6_fails 35 = .ok (.aload_n 0, 1) := by decide +kernel
theorem dX6_fails_36 : decode cX6_fails 36 = .ok (.getfield 7, 3) := by decide +kernel
theorem dX6_fails_39 : decode cX6_fails 39 = .ok (.iload_n 1, 1) := by decide +kernel
theorem dX6_fails_40 : decode cX6_fails 40 = .ok (.bipush 8, 2) := by decide +kernel
theorem dX6_fails_42 : decode cX6_fails 42 = .ok (.iconst 3, 1) := by decide +kernel
theorem dX6_fails_43 : decode cX6_fails 43 = .ok (.iload 4, 2) := by decide +kernel
theorem dX6_fails_45 : decode cX6_fails 45 = .ok (.imul, 1) := by decide +kernel
theorem dX6_fails_46 : decode cX6_fails 46 = .ok (.iadd, 1) := by decide +kernel
theorem dX6_fails_47 : decode cX6_fails 47 = .ok (.iconst 1, 1) := by decide +kernel
theorem dX6_fails_48 : decode cX6_fails 48 = .ok (.iadd, 1) := by decide +kernel
theorem dX6_fails_49 : decode cX6_fails 49 = .ok (.invokestatic 46, 3) := by decide +kernel
theorem dX6_fails_52 : decode cX6_fails 52 = .ok (.iload_n 3, 1) := by decide +kernel
theorem dX6_fails_53 : decode cX6_fails 53 = .ok (.iastore, 1) := by decide +kernel
theorem dX6_fails_54 : decode cX6_fails 54 = .ok (.aload_n 0, 1) := by decide +kernel
theorem dX6_fails_55 : decode cX6_fails 55 = .ok (.getfield 7, 3) := by decide +kernel
theorem dX6_fails_58 : decode cX6_fails 58 = .ok (.iload_n 1, 1) := by decide +kernel
theorem dX6_fails_59 : decode cX6_fails 59 = .ok (.bipush 8, 2) := by decide +kernel
theorem dX6_fails_61 : decode cX6_fails 61 = .ok (.iconst 3, 1) := by decide +kernel
theorem dX6_fails_62 : decode cX6_fails 62 = .ok (.iload 4, 2) := by decide +kernel
theorem dX6_fails_64 : decode cX6_fails 64 = .ok (.imul, 1) := by decide +kernel
theorem dX6_fails_65 : decode cX6_fails 65 = .ok (.iadd, 1) := by decide +kernel
theorem dX6_fails_66 : decode cX6_fails 66 = .ok (.iconst 2, 1) := by decide +kernel
theorem dX6_fails_67 : decode cX6_fails 67 = .ok (.iadd, 1) := by decide +kernel
theorem dX6_fails_68 : decode cX6_fails 68 = .ok (.invokestatic 46, 3) := by decide +kernel
theorem dX6_fails_71 : decode cX6_fails 71 = .ok (.iconst 0, 1) := by decide +kernel
theorem dX6_fails_72 : decode cX6_fails 72 = .ok (.iastore, 1) := by decide +kernel
theorem dX6_fails_73 : decode cX6_fails 73 = .ok (.aload_n 0, 1) := by decide +kernel
theorem dX6_fails_74 : decode cX6_fails 74 = .ok (.getfield 7, 3) := by decide +kernel
theorem dX6_fails_77 : decode cX6_fails 77 = .ok (.iload_n 1, 1) := by decide +kernel
theorem dX6_fails_78 : decode cX6_fails 78 = .ok (.bipush 7, 2) := by decide +kernel
theorem dX6_fails_80 : decode cX6_fails 80 = .ok (.invokestatic 46, 3) := by decide +kernel
theorem dX6_fails_83 : decode cX6_fails 83 = .ok (.dup2, 1) := by decide +kernel
theorem dX6_fails_84 : decode cX6_fails 84 = .ok (.iaload, 1) := by decide +kernel
theorem dX6_fails_85 : decode cX6_fails 85 = .ok (.iconst 1, 1) := by decide +kernel
theorem dX6_fails_86 : decode cX6_fails 86 = .ok (.iadd, 1) := by decide +kernel
theorem dX6_fails_87 : decode cX6_fails 87 = .ok (.iastore, 1) := by decide +kernel
theorem dX6_fails_88 : decode cX6_fails 88 = .ok (.iconst 1, 1) := by decide +kernel
theorem dX6_fails_89 : decode cX6_fails 89 = .ok (.ireturn, 1) := by decide +kernel
theorem dX6_comes_0 : decode cX6_comes 0 = .ok (.aload_n 0, 1) := by decide +kernel
theorem dX6_comes_1 : decode cX6_comes 1 = .ok (.getfield 7, 3) := by decide +kernel
theorem dX6_comes_4 : decode cX6_comes 4 = .ok (.iconst 2, 1) := by decide +kernel
theorem dX6_comes_5 : decode cX6_comes 5 = .ok (.iaload, 1) := by decide +kernel
theorem dX6_comes_6 : decode cX6_comes 6 = .ok (.istore_n 2, 1) := by decide +kernel
theorem dX6_comes_7 : decode cX6_comes 7 = .ok (.iconst 0, 1) := by decide +kernel
theorem dX6_comes_8 : decode cX6_comes 8 = .ok (.istore_n 3, 1) := by decide +kernel
theorem dX6_comes_9 : decode cX6_comes 9 = .ok (.iload_n 3, 1) := by decide +kernel
theorem dX6_comes_10 : decode cX6_comes 10 = .ok (.sipush 1288, 3) := by decide +kernel
theorem dX6_comes_13 : decode cX6_comes 13 = .ok (.if_icmp .ge 20, 3) := by decide +kernel
theorem dX6_comes_16 : decode cX6_comes 16 = .ok (.aload_n 0, 1) := by decide +kernel
theorem dX6_comes_17 : decode cX6_comes 17 = .ok (.getfield 7, 3) := by decide +kernel
theorem dX6_comes_20 : decode cX6_comes 20 = .ok (.iload_n 2, 1) := by decide +kernel
theorem dX6_comes_21 : decode cX6_comes 21 = .ok (.iload_n 3, 1) := by decide +kernel
theorem dX6_comes_22 : decode cX6_comes 22 = .ok (.invokestatic 46, 3) := by decide +kernel
theorem dX6_comes_25 : decode cX6_comes 25 = .ok (.iconst 0, 1) := by decide +kernel
theorem dX6_comes_26 : decode cX6_comes 26 = .ok (.iastore, 1) := by decide +kernel
theorem dX6_comes_27 : decode cX6_comes 27 = .ok (.iinc 3 1, 3) := by decide +kernel
theorem dX6_comes_30 : decode cX6_comes 30 = .ok (.goto (-21), 3) := by decide +kernel
theorem dX6_comes_33 : decode cX6_comes 33 = .ok (.aload_n 0, 1) := by decide +kernel
theorem dX6_comes_34 : decode cX6_comes 34 = .ok (.getfield 7, 3) := by decide +kernel
theorem dX6_comes_37 : decode cX6_comes 37 = .ok (.iload_n 2, 1) := by decide +kernel
theorem dX6_comes_38 : decode cX6_comes 38 = .ok (.iconst 0, 1) := by decide +kernel
theorem dX6_comes_39 : decode cX6_comes 39 = .ok (.invokestatic 46, 3) := by decide +kernel
theorem dX6_comes_42 : decode cX6_comes 42 = .ok (.iload_n 1, 1) := by decide +kernel
theorem dX6_comes_43 : decode cX6_comes 43 = .ok (.iastore, 1) := by decide +kernel
theorem dX6_comes_44 : decode cX6_comes 44 = .ok (.aload_n 0, 1) := by decide +kernel
theorem dX6_comes_45 : decode cX6_comes 45 = .ok (.getfield 7, 3) := by decide +kernel
theorem dX6_comes_48 : decode cX6_comes 48 = .ok (.iload_n 2, 1) := by decide +kernel
theorem dX6_comes_49 : decode cX6_comes 49 = .ok (.iconst 1, 1) := by decide +kernel
theorem dX6_comes_50 : decode cX6_comes 50 = .ok (.invokestatic 46, 3) := by decide +kernel
theorem dX6_comes_53 : decode cX6_comes 53 = .ok (.aload_n 0, 1) := by decide +kernel
theorem dX6_comes_54 : decode cX6_comes 54 = .ok (.getfield 7, 3) := by decide +kernel
theorem dX6_comes_57 : decode cX6_comes 57 = .ok (.iconst 0, 1) := by decide +kernel
theorem dX6_comes_58 : decode cX6_comes 58 = .ok (.iaload, 1) := by decide +kernel
theorem dX6_comes_59 : decode cX6_comes 59 = .ok (.iastore, 1) := by decide +kernel
theorem dX6_comes_60 : decode cX6_comes 60 = .ok (.aload_n 0, 1) := by decide +kernel
theorem dX6_comes_61 : decode cX6_comes 61 = .ok (.getfield 7, 3) := by decide +kernel
theorem dX6_comes_64 : decode cX6_comes 64 = .ok (.iload_n 2, 1) := by decide +kernel
theorem dX6_comes_65 : decode cX6_comes 65 = .ok (.iconst 4, 1) := by decide +kernel
theorem dX6_comes_66 : decode cX6_comes 66 = .ok (.invokestatic 46, 3) := by decide +kernel
theorem dX6_comes_69 : decode cX6_comes 69 = .ok (.iconst (-1), 1) := by decide +kernel
theorem dX6_comes_70 : decode cX6_comes 70 = .ok (.iastore, 1) := by decide +kernel
theorem dX6_comes_71 : decode cX6_comes 71 = .ok (.aload_n 0, 1) := by decide +kernel
theorem dX6_comes_72 : decode cX6_comes 72 = .ok (.getfield 7, 3) := by decide +kernel
theorem dX6_comes_75 : decode cX6_comes 75 = .ok (.iload_n 2, 1) := by decide +kernel
theorem dX6_comes_76 : decode cX6_comes 76 = .ok (.bipush 6, 2) := by decide +kernel
theorem dX6_comes_78 : decode cX6_comes 78 = .ok (.invokestatic 46, 3) := by decide +kernel
theorem dX6_comes_81 : decode cX6_comes 81 = .ok (.iconst (-1), 1) := by decide +kernel
theorem dX6_comes_82 : decode cX6_comes 82 = .ok (.iastore, 1) := by decide +kernel
theorem dX6_comes_83 : decode cX6_comes 83 = .ok (.aload_n 0, 1) := by decide +kernel
theorem dX6_comes_84 : decode cX6_comes 84 = .ok (.getfield 7, 3) := by decide +kernel
theorem dX6_comes_87 : decode cX6_comes 87 = .ok (.iconst 2, 1) := by decide +kernel
theorem dX6_comes_88 : decode cX6_comes 88 = .ok (.dup2, 1) := by decide +kernel
theorem dX6_comes_89 : decode cX6_comes 89 = .ok (.iaload, 1) := by decide +kernel
theorem dX6_comes_90 : decode cX6_comes 90 = .ok (.iconst 1, 1) := by decide +kernel
theorem dX6_comes_91 : decode cX6_comes 91 = .ok (.iadd, 1) := by decide +kernel
theorem dX6_comes_92 : decode cX6_comes 92 = .ok (.iastore, 1) := by decide +kernel
theorem dX6_comes_93 : decode cX6_comes 93 = .ok (.iload_n 2, 1) := by decide +kernel
theorem dX6_comes_94 : decode cX6_comes 94 = .ok (.ireturn, 1) := by decide +kernel
theorem dX6_isBehind_0 : decode cX6_isBehind 0 = .ok (.iload_n 1, 1) := by decide +kernel
theorem dX6_isBehind_1 : decode cX6_isBehind 1 = .ok (.aload_n 0, 1) := by decide +kernel
theorem dX6_isBehind_2 : decode cX6_isBehind 2 = .ok (.getfield 7, 3) := by decide +kernel
theorem dX6_isBehind_5 : decode cX6_isBehind 5 = .ok (.iconst 0, 1) := by decide +kernel
theorem dX6_isBehind_6 : decode cX6_isBehind 6 = .ok (.iaload, 1) := by decide +kernel
theorem dX6_isBehind_7 : decode cX6_isBehind 7 = .ok (.if_icmp .gt 23, 3) := by decide +kernel
theorem dX6_isBehind_10 : decode cX6_isBehind 10 = .ok (.iload_n 1, 1) := by decide +kernel
theorem dX6_isBehind_11 : decode cX6_isBehind 11 = .ok (.aload_n 0, 1) := by decide +kernel
theorem dX6_isBehind_12 : decode cX6_isBehind 12 = .ok (.getfield 7, 3) := by decide +kernel
theorem dX6_isBehind_15 : decode cX6_isBehind 15 = .ok (.iconst 0, 1) := by decide +kernel
theorem dX6_isBehind_16 : decode cX6_isBehind 16 = .ok (.iaload, 1) := by decide +kernel
theorem dX6_isBehind_17 : decode cX6_isBehind 17 = .ok (.if_icmp .ne 17, 3) := by decide +kernel
theorem dX6_isBehind_20 : decode cX6_isBehind 20 = .ok (.iload_n 2, 1) := by decide +kernel
theorem dX6_isBehind_21 : decode cX6_isBehind 21 = .ok (.aload_n 0, 1) := by decide +kernel
theorem dX6_isBehind_22 : decode cX6_isBehind 22 = .ok (.getfield 7, 3) := by decide +kernel
theorem dX6_isBehind_25 : decode cX6_isBehind 25 = .ok (.iconst 1, 1) := by decide +kernel
theorem dX6_isBehind_26 : decode cX6_isBehind 26 = .ok (.iaload, 1) := by decide +kernel
theorem dX6_isBehind_27 : decode cX6_isBehind 27 = .ok (.if_icmp .le 7, 3) := by decide +kernel
theorem dX6_isBehind_30 : decode cX6_isBehind 30 = .ok (.iconst 1, 1) := by decide +kernel
theorem dX6_isBehind_31 : decode cX6_isBehind 31 = .ok (.goto 4, 3) := by decide +kernel
theorem dX6_isBehind_34 : decode cX6_isBehind 34 = .ok (.iconst 0, 1) := by decide +kernel
theorem dX6_isBehind_35 : decode cX6_isBehind 35 = .ok (.ireturn, 1) := by decide +kernel
theorem dX6_isFiled_0 : decode cX6_isFiled 0 = .ok (.aload_n 0, 1) := by decide +kernel
theorem dX6_isFiled_1 : decode cX6_isFiled 1 = .ok (.iload_n 1, 1) := by decide +kernel
theorem dX6_isFiled_2 : decode cX6_isFiled 2 = .ok (.sipush 188, 3) := by decide +kernel
theorem dX6_isFiled_5 : decode cX6_isFiled 5 = .ok (.iload_n 2, 1) := by decide +kernel
theorem dX6_isFiled_6 : decode cX6_isFiled 6 = .ok (.iadd, 1) := by decide +kernel
theorem dX6_isFiled_7 : decode cX6_isFiled 7 = .ok (.invokevirtual 50, 3) := by decide +kernel
theorem dX6_isFiled_10 : decode cX6_isFiled 10 = .ok (.ifCond .le 7, 3) := by decide +kernel
theorem dX6_isFiled_13 : decode cX6_isFiled 13 = .ok (.iconst 1, 1) := by decide +kernel
theorem dX6_isFiled_14 : decode cX6_isFiled 14 = .ok (.goto 4, 3) := by decide +kernel
theorem dX6_isFiled_17 : decode cX6_isFiled 17 = .ok (.iconst 0, 1) := by decide +kernel
theorem dX6_isFiled_18 : decode cX6_isFiled 18 = .ok (.ireturn, 1) := by decide +kernel
theorem dX6_holeOf_0 : decode cX6_holeOf 0 = .ok (.bipush 30, 2) := by decide +kernel
theorem dX6_holeOf_2 : decode cX6_holeOf 2 = .ok (.iload_n 2, 1) := by decide +kernel
theorem dX6_holeOf_3 : decode cX6_holeOf 3 = .ok (.imul, 1) := by decide +kernel
theorem dX6_holeOf_4 : decode cX6_holeOf 4 = .ok (.istore_n 3, 1) := by decide +kernel
theorem dX6_holeOf_5 : decode cX6_holeOf 5 = .ok (.iload_n 3, 1) := by decide +kernel
theorem dX6_holeOf_6 : decode cX6_holeOf 6 = .ok (.bipush 30, 2) := by decide +kernel
theorem dX6_holeOf_8 : decode cX6_holeOf 8 = .ok (.iload_n 2, 1) := by decide +kernel
theorem dX6_holeOf_9 : decode cX6_holeOf 9 = .ok (.imul, 1) := by decide +kernel
theorem dX6_holeOf_10 : decode cX6_holeOf 10 = .ok (.bipush 30, 2) := by decide +kernel
theorem dX6_holeOf_12 : decode cX6_holeOf 12 = .ok (.iadd, 1) := by decide +kernel
theorem dX6_holeOf_13 : decode cX6_holeOf 13 = .ok (.if_icmp .ge 20, 3) := by decide +kernel
theorem dX6_holeOf_16 : decode cX6_holeOf 16 = .ok (.aload_n 0, 1) := by decide +kernel
theorem dX6_holeOf_17 : decode cX6_holeOf 17 = .ok (.iload_n 1, 1) := by decide +kernel
theorem dX6_holeOf_18 : decode cX6_holeOf 18 = .ok (.iload_n 3, 1) := by decide +kernel
theorem dX6_holeOf_19 : decode cX6_holeOf 19 = .ok (.invokevirtual 53, 3) := by decide +kernel
theorem dX6_holeOf_22 : decode cX6_holeOf 22 = .ok (.ifCond .ne 5, 3) := by decide +kernel
theorem dX6_holeOf_25 : decode cX6_holeOf 25 = .ok (.iload_n 3, 1) := by decide +kernel
theorem dX6_holeOf_26 : decode cX6_holeOf 26 = .ok (.ireturn, 1) := by decide +kernel
theorem dX6_holeOf_27 : decode cX6_holeOf 27 = .ok (.iinc 3 1, 3) := by decide +kernel
theorem dX6_holeOf_30 : decode cX6_holeOf 30 = .ok (.goto (-25), 3) := by decide +kernel
theorem dX6_holeOf_33 : decode cX6_holeOf 33 = .ok (.iconst (-1), 1) := by decide +kernel
theorem dX6_holeOf_34 : decode cX6_holeOf 34 = .ok (.ireturn, 1) := by decide +kernel
theorem dX6_goesOn_0 : decode cX6_goesOn 0 = .ok (.iconst 0, 1) := by decide +kernel
theorem dX6_goesOn_1 : decode cX6_goesOn 1 = .ok (.istore_n 3, 1) := by decide +kernel
theorem dX6_goesOn_2 : decode cX6_goesOn 2 = .ok (.aload_n 0, 1) := by decide +kernel
theorem dX6_goesOn_3 : decode cX6_goesOn 3 = .ok (.getfield 7, 3) := by decide +kernel
theorem dX6_goesOn_6 : decode cX6_goesOn 6 = .ok (.iconst 0, 1) := by decide +kernel
theorem dX6_goesOn_7 : decode cX6_goesOn 7 = .ok (.iaload, 1) := by decide +kernel
theorem dX6_goesOn_8 : decode cX6_goesOn 8 = .ok (.bipush 30, 2) := by decide +kernel
theorem dX6_goesOn_10 : decode cX6_goesOn 10 = .ok (.idiv, 1) := by decide +kernel
theorem dX6_goesOn_11 : decode cX6_goesOn 11 = .ok (.iconst 1, 1) := by decide +kernel
theorem dX6_goesOn_12 : decode cX6_goesOn 12 = .ok (.iadd, 1) := by decide +kernel
theorem dX6_goesOn_13 : decode cX6_goesOn 13 = .ok (.istore 4, 2) := by decide +kernel
theorem dX6_goesOn_15 : decode cX6_goesOn 15 = .ok (.iload 4, 2) := by decide +kernel
theorem dX6_goesOn_17 : decode cX6_goesOn 17 = .ok (.iload_n 1, 1) := by decide +kernel
theorem dX6_goesOn_18 : decode cX6_goesOn 18 = .ok (.bipush 30, 2) := by decide +kernel
theorem dX6_goesOn_20 : decode cX6_goesOn 20 = .ok (.idiv, 1) := by decide +kernel
theorem dX6_goesOn_21 : decode cX6_goesOn 21 = .ok (.if_icmp .gt 64, 3) := by decide +kernel
theorem dX6_goesOn_24 : decode cX6_goesOn 24 = .ok (.iconst 0, 1) := by decide +kernel
theorem dX6_goesOn_25 : decode cX6_goesOn 25 = .ok (.istore 5, 2) := by decide +kernel
theorem dX6_goesOn_27 : decode cX6_goesOn 27 = .ok (.iload 5, 2) := by decide +kernel
theorem dX6_goesOn_29 : decode cX6_goesOn 29 = .ok (.aload_n 0, 1) := by decide +kernel
theorem dX6_goesOn_30 : decode cX6_goesOn 30 = .ok (.getfield 7, 3) := by decide +kernel
theorem dX6_goesOn_33 : decode cX6_goesOn 33 = .ok (.iconst 2, 1) := by decide +kernel
theorem dX6_goesOn_34 : decode cX6_goesOn 34 = .ok (.iaload, 1) := by decide +kernel
theorem dX6_goesOn_35 : decode cX6_goesOn 35 = .ok (.if_icmp .ge 44, 3) := by decide +kernel
theorem dX6_goesOn_38 : decode cX6_goesOn 38 = .ok (.iload_n 3, 1) := by decide +kernel
theorem dX6_goesOn_39 : decode cX6_goesOn 39 = .ok (.aload_n 0, 1) := by decide +kernel
theorem dX6_goesOn_40 : decode cX6_goesOn 40 = .ok (.iload 5, 2) := by decide +kernel
theorem dX6_goesOn_42 : decode cX6_goesOn 42 = .ok (.iload 4, 2) := by decide +kernel
theorem dX6_goesOn_44 : decode cX6_goesOn 44 = .ok (.invokevirtual 57, 3) := by decide +kernel
theorem dX6_goesOn_47 : decode cX6_goesOn 47 = .ok (.iconst (-1), 1) := by decide +kernel
theorem dX6_goesOn_48 : decode cX6_goesOn 48 = .ok (.if_icmp .eq 22, 3) := by decide +kernel
theorem dX6_goesOn_51 : decode cX6_goesOn 51 = .ok (.aload_n 0, 1) := by decide +kernel
theorem dX6_goesOn_52 : decode cX6_goesOn 52 = .ok (.iload 5, 2) := by decide +kernel
theorem dX6_goesOn_54 : decode cX6_goesOn 54 = .ok (.bipush 30, 2) := by decide +kernel
theorem dX6_goesOn_56 : decode cX6_goesOn 56 = .ok (.iload 4, 2) := by decide +kernel
theorem dX6_goesOn_58 : decode cX6_goesOn 58 = .ok (.imul, 1) := by decide +kernel
theorem dX6_goesOn_59 : decode cX6_goesOn 59 = .ok (.iconst 0, 1) := by decide +kernel
theorem dX6_goesOn_60 : decode cX6_goesOn 60 = .ok (.invokevirtual 60, 3) := by decide +kernel
theorem dX6_goesOn_63 : decode cX6_goesOn 63 = .ok (.ifCond .eq 7, 3) := by decide +kernel
theorem dX6_goesOn_66 : decode cX6_goesOn 66 = .ok (.iconst 1, 1) := by decide +kernel
theorem dX6_goesOn_67 : decode cX6_goesOn 67 = .ok (.goto 4, 3) := by decide +kernel
theorem dX6_goesOn_70 : decode cX6_goesOn 70 = .ok (.iconst 0, 1) := by decide +kernel
theorem dX6_goesOn_71 : decode cX6_goesOn 71 = .ok (.iadd, 1) := by decide +kernel
theorem dX6_goesOn_72 : decode cX6_goesOn 72 = .ok (.istore_n 3, 1) := by decide +kernel
theorem dX6_goesOn_73 : decode cX6_goesOn 73 = .ok (.iinc 5 1, 3) := by decide +kernel
theorem dX6_goesOn_76 : decode cX6_goesOn 76 = .ok (.goto (-49), 3) := by decide +kernel
theorem dX6_goesOn_79 : decode cX6_goesOn 79 = .ok (.iinc 4 1, 3) := by decide +kernel
theorem dX6_goesOn_82 : decode cX6_goesOn 82 = .ok (.goto (-67), 3) := by decide +kernel
theorem dX6_goesOn_85 : decode cX6_goesOn 85 = .ok (.aload_n 0, 1) := by decide +kernel
theorem dX6_goesOn_86 : decode cX6_goesOn 86 = .ok (.getfield 7, 3) := by decide +kernel
theorem dX6_goesOn_89 : decode cX6_goesOn 89 = .ok (.iconst 0, 1) := by decide +kernel
theorem dX6_goesOn_90 : decode cX6_goesOn 90 = .ok (.iload_n 1, 1) := by decide +kernel
theorem dX6_goesOn_91 : decode cX6_goesOn 91 = .ok (.iastore, 1) := by decide +kernel
theorem dX6_goesOn_92 : decode cX6_goesOn 92 = .ok (.aload_n 0, 1) := by decide +kernel
theorem dX6_goesOn_93 : decode cX6_goesOn 93 = .ok (.getfield 7, 3) := by decide +kernel
theorem dX6_goesOn_96 : decode cX6_goesOn 96 = .ok (.iconst 1, 1) := by decide +kernel
theorem dX6_goesOn_97 : decode cX6_goesOn 97 = .ok (.iload_n 2, 1) := by decide +kernel
theorem dX6_goesOn_98 : decode cX6_goesOn 98 = .ok (.iastore, 1) := by decide +kernel
theorem dX6_goesOn_99 : decode cX6_goesOn 99 = .ok (.iload_n 3, 1) := by decide +kernel
theorem dX6_goesOn_100 : decode cX6_goesOn 100 = .ok (.ireturn, 1) := by decide +kernel
theorem dX6_hourOf_0 : decode cX6_hourOf 0 = .ok (.aload_n 0, 1) := by decide +kernel
theorem dX6_hourOf_1 : decode cX6_hourOf 1 = .ok (.iload_n 1, 1) := by decide +kernel
theorem dX6_hourOf_2 : decode cX6_hourOf 2 = .ok (.sipush 188, 3) := by decide +kernel
theorem dX6_hourOf_5 : decode cX6_hourOf 5 = .ok (.iload_n 2, 1) := by decide +kernel
theorem dX6_hourOf_6 : decode cX6_hourOf 6 = .ok (.iadd, 1) := by decide +kernel
theorem dX6_hourOf_7 : decode cX6_hourOf 7 = .ok (.invokevirtual 50, 3) := by decide +kernel
theorem dX6_hourOf_10 : decode cX6_hourOf 10 = .ok (.iconst 1, 1) := by decide +kernel
theorem dX6_hourOf_11 : decode cX6_hourOf 11 = .ok (.isub, 1) := by decide +kernel
theorem dX6_hourOf_12 : decode cX6_hourOf 12 = .ok (.bipush 10, 2) := by decide +kernel
theorem dX6_hourOf_14 : decode cX6_hourOf 14 = .ok (.idiv, 1) := by decide +kernel
theorem dX6_hourOf_15 : decode cX6_hourOf 15 = .ok (.ireturn, 1) := by decide +kernel
theorem dX6_placeOf_0 : decode cX6_placeOf 0 = .ok (.aload_n 0, 1) := by decide +kernel
theorem dX6_placeOf_1 : decode cX6_placeOf 1 = .ok (.iload_n 1, 1) := by decide +kernel
theorem dX6_placeOf_2 : decode cX6_placeOf 2 = .ok (.sipush 188, 3) := by decide +kernel
theorem dX6_placeOf_5 : decode cX6_placeOf 5 = .ok (.iload_n 2, 1) := by decide +kernel
theorem dX6_placeOf_6 : decode cX6_placeOf 6 = .ok (.iadd, 1) := by decide +kernel
theorem dX6_placeOf_7 : decode cX6_placeOf 7 = .ok (.invokevirtual 50, 3) := by decide +kernel
theorem dX6_placeOf_10 : decode cX6_placeOf 10 = .ok (.iconst 1, 1) := by decide +kernel
theorem dX6_placeOf_11 : decode cX6_placeOf 11 = .ok (.isub, 1) := by decide +kernel
theorem dX6_placeOf_12 : decode cX6_placeOf 12 = .ok (.bipush 10, 2) := by decide +kernel
theorem dX6_placeOf_14 : decode cX6_placeOf 14 = .ok (.irem, 1) := by decide +kernel
theorem dX6_placeOf_15 : decode cX6_placeOf 15 = .ok (.ireturn, 1) := by decide +kernel
theorem dX6_mayFile_0 : decode cX6_mayFile 0 = .ok (.iload_n 2, 1) := by decide +kernel
theorem dX6_mayFile_1 : decode cX6_mayFile 1 = .ok (.aload_n 0, 1) := by decide +kernel
theorem dX6_mayFile_2 : decode cX6_mayFile 2 = .ok (.getfield 7, 3) := by decide +kernel
theorem dX6_mayFile_5 : decode cX6_mayFile 5 = .ok (.iconst 0, 1) := by decide +kernel
theorem dX6_mayFile_6 : decode cX6_mayFile 6 = .ok (.iaload, 1) := by decide +kernel
theorem dX6_mayFile_7 : decode cX6_mayFile 7 = .ok (.if_icmp .eq 19, 3) := by decide +kernel
theorem dX6_mayFile_10 : decode cX6_mayFile 10 = .ok (.iload_n 2, 1) := by decide +kernel
theorem dX6_mayFile_11 : decode cX6_mayFile 11 = .ok (.aload_n 0, 1) := by decide +kernel
theorem dX6_mayFile_12 : decode cX6_mayFile 12 = .ok (.getfield 7, 3) := by decide +kernel
theorem dX6_mayFile_15 : decode cX6_mayFile 15 = .ok (.iconst 0, 1) := by decide +kernel
theorem dX6_mayFile_16 : decode cX6_mayFile 16 = .ok (.iaload, 1) := by decide +kernel
theorem dX6_mayFile_17 : decode cX6_mayFile 17 = .ok (.if_icmp .le 7, 3) := by decide +kernel
theorem dX6_mayFile_20 : decode cX6_mayFile 20 = .ok (.iconst 1, 1) := by decide +kernel
theorem dX6_mayFile_21 : decode cX6_mayFile 21 = .ok (.goto 4, 3) := by decide +kernel
theorem dX6_mayFile_24 : decode cX6_mayFile 24 = .ok (.iconst 0, 1) := by decide +kernel
theorem dX6_mayFile_25 : decode cX6_mayFile 25 = .ok (.ireturn, 1) := by decide +kernel
theorem dX6_mayFile_26 : decode cX6_mayFile 26 = .ok (.iload_n 3, 1) := by decide +kernel
theorem dX6_mayFile_27 : decode cX6_mayFile 27 = .ok (.aload_n 0, 1) := by decide +kernel
theorem dX6_mayFile_28 : decode cX6_mayFile 28 = .ok (.getfield 7, 3) := by decide +kernel
theorem dX6_mayFile_31 : decode cX6_mayFile 31 = .ok (.iconst 1, 1) := by decide +kernel
theorem dX6_mayFile_32 : decode cX6_mayFile 32 = .ok (.iaload, 1) := by decide +kernel
theorem dX6_mayFile_33 : decode cX6_mayFile 33 = .ok (.if_icmp .le 31, 3) := by decide +kernel
theorem dX6_mayFile_36 : decode cX6_mayFile 36 = .ok (.aload_n 0, 1) := by decide +kernel
theorem dX6_mayFile_37 : decode cX6_mayFile 37 = .ok (.iload_n 1, 1) := by decide +kernel
theorem dX6_mayFile_38 : decode cX6_mayFile 38 = .ok (.iload_n 2, 1) := by decide +kernel
theorem dX6_mayFile_39 : decode cX6_mayFile 39 = .ok (.invokevirtual 53, 3) := by decide +kernel
theorem dX6_mayFile_42 : decode cX6_mayFile 42 = .ok (.ifCond .eq 18, 3) := by decide +kernel
theorem dX6_mayFile_45 : decode cX6_mayFile 45 = .ok (.aload_n 0, 1) := by decide +kernel
theorem dX6_mayFile_46 : decode cX6_mayFile 46 = .ok (.iload_n 1, 1) := by decide +kernel
theorem dX6_mayFile_47 : decode cX6_mayFile 47 = .ok (.iload_n 2, 1) := by decide +kernel
theorem dX6_mayFile_48 : decode cX6_mayFile 48 = .ok (.invokevirtual 63, 3) := by decide +kernel
theorem dX6_mayFile_51 : decode cX6_mayFile 51 = .ok (.aload_n 0, 1) := by decide +kernel
theorem dX6_mayFile_52 : decode cX6_mayFile 52 = .ok (.getfield 7, 3) := by decide +kernel
theorem dX6_mayFile_55 : decode cX6_mayFile 55 = .ok (.iconst 1, 1) := by decide +kernel
theorem dX6_mayFile_56 : decode cX6_mayFile 56 = .ok (.iaload, 1) := by decide +kernel
theorem dX6_mayFile_57 : decode cX6_mayFile 57 = .ok (.if_icmp .le 7, 3) := by decide +kernel
theorem dX6_mayFile_60 : decode cX6_mayFile 60 = .ok (.iconst 1, 1) := by decide +kernel
theorem dX6_mayFile_61 : decode cX6_mayFile 61 = .ok (.goto 4, 3) := by decide +kernel
theorem dX6_mayFile_64 : decode cX6_mayFile 64 = .ok (.iconst 0, 1) := by decide +kernel
theorem dX6_mayFile_65 : decode cX6_mayFile 65 = .ok (.ireturn, 1) := by decide +kernel
theorem dX6_isLate_0 : decode cX6_isLate 0 = .ok (.aload_n 0, 1) := by decide +kernel
theorem dX6_isLate_1 : decode cX6_isLate 1 = .ok (.getfield 7, 3) := by decide +kernel
theorem dX6_isLate_4 : decode cX6_isLate 4 = .ok (.iconst 0, 1) := by decide +kernel
theorem dX6_isLate_5 : decode cX6_isLate 5 = .ok (.iaload, 1) := by decide +kernel
theorem dX6_isLate_6 : decode cX6_isLate 6 = .ok (.bipush 30, 2) := by decide +kernel
theorem dX6_isLate_8 : decode cX6_isLate 8 = .ok (.idiv, 1) := by decide +kernel
theorem dX6_isLate_9 : decode cX6_isLate 9 = .ok (.istore_n 2, 1) := by decide +kernel
theorem dX6_isLate_10 : decode cX6_isLate 10 = .ok (.aload_n 0, 1) := by decide +kernel
theorem dX6_isLate_11 : decode cX6_isLate 11 = .ok (.iload_n 1, 1) := by decide +kernel
theorem dX6_isLate_12 : decode cX6_isLate 12 = .ok (.bipush 6, 2) := by decide +kernel
theorem dX6_isLate_14 : decode cX6_isLate 14 = .ok (.invokevirtual 50, 3) := by decide +kernel
theorem dX6_isLate_17 : decode cX6_isLate 17 = .ok (.iload_n 2, 1) := by decide +kernel
theorem dX6_isLate_18 : decode cX6_isLate 18 = .ok (.if_icmp .eq 26, 3) := by decide +kernel
theorem dX6_isLate_21 : decode cX6_isLate 21 = .ok (.aload_n 0, 1) := by decide +kernel
theorem dX6_isLate_22 : decode cX6_isLate 22 = .ok (.getfield 7, 3) := by decide +kernel
theorem dX6_isLate_25 : decode cX6_isLate 25 = .ok (.iload_n 1, 1) := by decide +kernel
theorem dX6_isLate_26 : decode cX6_isLate 26 = .ok (.bipush 6, 2) := by decide +kernel
theorem dX6_isLate_28 : decode cX6_isLate 28 = .ok (.invokestatic 46, 3) := by decide +kernel
theorem dX6_isLate_31 : decode cX6_isLate 31 = .ok (.iload_n 2, 1) := by decide +kernel
theorem dX6_isLate_32 : decode cX6_isLate 32 = .ok (.iastore, 1) := by decide +kernel
theorem dX6_isLate_33 : decode cX6_isLate 33 = .ok (.aload_n 0, 1) := by decide +kernel
theorem dX6_isLate_34 : decode cX6_isLate 34 = .ok (.getfield 7, 3) := by decide +kernel
theorem dX6_isLate_37 : decode cX6_isLate 37 = .ok (.iload_n 1, 1) := by decide +kernel
theorem dX6_isLate_38 : decode cX6_isLate 38 = .ok (.iconst 5, 1) := by decide +kernel
theorem dX6_isLate_39 : decode cX6_isLate 39 = .ok (.invokestatic 46, 3) := by decide +kernel
theorem dX6_isLate_42 : decode cX6_isLate 42 = .ok (.iconst 0, 1) := by decide +kernel
theorem dX6_isLate_43 : decode cX6_isLate 43 = .ok (.iastore, 1) := by decide +kernel
theorem dX6_isLate_44 : decode cX6_isLate 44 = .ok (.aload_n 0, 1) := by decide +kernel
theorem dX6_isLate_45 : decode cX6_isLate 45 = .ok (.getfield 7, 3) := by decide +kernel
theorem dX6_isLate_48 : decode cX6_isLate 48 = .ok (.iload_n 1, 1) := by decide +kernel
theorem dX6_isLate_49 : decode cX6_isLate 49 = .ok (.iconst 5, 1) := by decide +kernel
theorem dX6_isLate_50 : decode cX6_isLate 50 = .ok (.invokestatic 46, 3) := by decide +kernel
theorem dX6_isLate_53 : decode cX6_isLate 53 = .ok (.dup2, 1) := by decide +kernel
theorem dX6_isLate_54 : decode cX6_isLate 54 = .ok (.iaload, 1) := by decide +kernel
theorem dX6_isLate_55 : decode cX6_isLate 55 = .ok (.iconst 1, 1) := by decide +kernel
theorem dX6_isLate_56 : decode cX6_isLate 56 = .ok (.iadd, 1) := by decide +kernel
theorem dX6_isLate_57 : decode cX6_isLate 57 = .ok (.iastore, 1) := by decide +kernel
theorem dX6_isLate_58 : decode cX6_isLate 58 = .ok (.aload_n 0, 1) := by decide +kernel
theorem dX6_isLate_59 : decode cX6_isLate 59 = .ok (.iload_n 1, 1) := by decide +kernel
theorem dX6_isLate_60 : decode cX6_isLate 60 = .ok (.iconst 5, 1) := by decide +kernel
theorem dX6_isLate_61 : decode cX6_isLate 61 = .ok (.invokevirtual 50, 3) := by decide +kernel
theorem dX6_isLate_64 : decode cX6_isLate 64 = .ok (.aload_n 0, 1) := by decide +kernel
theorem dX6_isLate_65 : decode cX6_isLate 65 = .ok (.getfield 7, 3) := by decide +kernel
theorem dX6_isLate_68 : decode cX6_isLate 68 = .ok (.bipush 7, 2) := by decide +kernel
theorem dX6_isLate_70 : decode cX6_isLate 70 = .ok (.iaload, 1) := by decide +kernel
theorem dX6_isLate_71 : decode cX6_isLate 71 = .ok (.if_icmp .le 16, 3) := by decide +kernel
theorem dX6_isLate_74 : decode cX6_isLate 74 = .ok (.aload_n 0, 1) := by decide +kernel
theorem dX6_isLate_75 : decode cX6_isLate 75 = .ok (.iload_n 1, 1) := by decide +kernel
theorem dX6_isLate_76 : decode cX6_isLate 76 = .ok (.aload_n 0, 1) := by decide +kernel
theorem dX6_isLate_77 : decode cX6_isLate 77 = .ok (.getfield 7, 3) := by decide +kernel
theorem dX6_isLate_80 : decode cX6_isLate 80 = .ok (.iconst 0, 1) := by decide +kernel
theorem dX6_isLate_81 : decode cX6_isLate 81 = .ok (.iaload, 1) := by decide +kernel
theorem dX6_isLate_82 : decode cX6_isLate 82 = .ok (.iconst 1, 1) := by decide +kernel
theorem dX6_isLate_83 : decode cX6_isLate 83 = .ok (.invokevirtual 60, 3) := by decide +kernel
theorem dX6_isLate_86 : decode cX6_isLate 86 = .ok (.pop, 1) := by decide +kernel
theorem dX6_isLate_87 : decode cX6_isLate 87 = .ok (.return_, 1) := by decide +kernel
theorem dX6_files_0 : decode cX6_files 0 = .ok (.iconst 0, 1) := by decide +kernel
theorem dX6_files_1 : decode cX6_files 1 = .ok (.istore 6, 2) := by decide +kernel
theorem dX6_files_3 : decode cX6_files 3 = .ok (.bipush 10, 2) := by decide +kernel
theorem dX6_files_5 : decode cX6_files 5 = .ok (.iload 4, 2) := by decide +kernel
theorem dX6_files_7 : decode cX6_files 7 = .ok (.imul, 1) := by decide +kernel
theorem dX6_files_8 : decode cX6_files 8 = .ok (.iload 5, 2) := by decide +kernel
theorem dX6_files_10 : decode cX6_files 10 = .ok (.iadd, 1) := by decide +kernel
theorem dX6_files_11 : decode cX6_files 11 = .ok (.iconst 1, 1) := by decide +kernel
theorem dX6_files_12 : decode cX6_files 12 = .ok (.iadd, 1) := by decide +kernel
theorem dX6_files_13 : decode cX6_files 13 = .ok (.istore 7, 2) := by decide +kernel
theorem dX6_files_15 : decode cX6_files 15 = .ok (.iload_n 2, 1) := by decide +kernel
theorem dX6_files_16 : decode cX6_files 16 = .ok (.istore 8, 2) := by decide +kernel
theorem dX6_files_18 : decode cX6_files 18 = .ok (.iload 8, 2) := by decide +kernel
theorem dX6_files_20 : decode cX6_files 20 = .ok (.iload_n 3, 1) := by decide +kernel
theorem dX6_files_21 : decode cX6_files 21 = .ok (.if_icmp .gt 117, 3) := by decide +kernel
theorem dX6_files_24 : decode cX6_files 24 = .ok (.aload_n 0, 1) := by decide +kernel
theorem dX6_files_25 : decode cX6_files 25 = .ok (.iload_n 1, 1) := by decide +kernel
theorem dX6_files_26 : decode cX6_files 26 = .ok (.iload 8, 2) := by decide +kernel
theorem dX6_files_28 : decode cX6_files 28 = .ok (.invokevirtual 53, 3) := by decide +kernel
theorem dX6_files_31 : decode cX6_files 31 = .ok (.ifCond .eq 84, 3) := by decide +kernel
theorem dX6_files_34 : decode cX6_files 34 = .ok (.aload_n 0, 1) := by decide +kernel
theorem dX6_files_35 : decode cX6_files 35 = .ok (.iload_n 1, 1) := by decide +kernel
theorem dX6_files_36 : decode cX6_files 36 = .ok (.sipush 188, 3) := by decide +kernel
theorem dX6_files_39 : decode cX6_files 39 = .ok (.iload 8, 2) := by decide +kernel
theorem dX6_files_41 : decode cX6_files 41 = .ok (.iadd, 1) := by decide +kernel
theorem dX6_files_42 : decode cX6_files 42 = .ok (.invokevirtual 50, 3) := by decide +kernel
theorem dX6_files_45 : decode cX6_files 45 = .ok (.iload 7, 2) := by decide +kernel
theorem dX6_files_47 : decode cX6_files 47 = .ok (.if_icmp .eq 68, 3) := by decide +kernel
theorem dX6_files_50 : decode cX6_files 50 = .ok (.iinc 6 1, 3) := by decide +kernel
theorem dX6_files_53 : decode cX6_files 53 = .ok (.aload_n 0, 1) := by decide +kernel
theorem dX6_files_54 : decode cX6_files 54 = .ok (.iload_n 1, 1) := by decide +kernel
theorem dX6_files_55 : decode cX6_files 55 = .ok (.iload 8, 2) := by decide +kernel
theorem dX6_files_57 : decode cX6_files 57 = .ok (.invokevirtual 63, 3) := by decide +kernel
theorem dX6_files_60 : decode cX6_files 60 = .ok (.istore 9, 2) := by decide +kernel
theorem dX6_files_62 : decode cX6_files 62 = .ok (.iload 9, 2) := by decide +kernel
theorem dX6_files_64 : decode cX6_files 64 = .ok (.iload 4, 2) := by decide +kernel
theorem dX6_files_66 : decode cX6_files 66 = .ok (.if_icmp .ge 8, 3) := by decide +kernel
theorem dX6_files_69 : decode cX6_files 69 = .ok (.iload 9, 2) := by decide +kernel
theorem dX6_files_71 : decode cX6_files 71 = .ok (.goto 5, 3) := by decide +kernel
theorem dX6_files_74 : decode cX6_files 74 = .ok (.iload 4, 2) := by decide +kernel
theorem dX6_files_76 : decode cX6_files 76 = .ok (.istore 10, 2) := by decide +kernel
theorem dX6_files_78 : decode cX6_files 78 = .ok (.bipush 24, 2) := by decide +kernel
theorem dX6_files_80 : decode cX6_files 80 = .ok (.iload 8, 2) := by decide +kernel
theorem dX6_files_82 : decode cX6_files 82 = .ok (.aload_n 0, 1) := by decide +kernel
theorem dX6_files_83 : decode cX6_files 83 = .ok (.getfield 7, 3) := by decide +kernel
theorem dX6_files_86 : decode cX6_files 86 = .ok (.iconst 0, 1) := by decide +kernel
theorem dX6_files_87 : decode cX6_files 87 = .ok (.iaload, 1) := by decide +kernel
theorem dX6_files_88 : decode cX6_files 88 = .ok (.isub, 1) := by decide +kernel
theorem dX6_files_89 : decode cX6_files 89 = .ok (.imul, 1) := by decide +kernel
theorem dX6_files_90 : decode cX6_files 90 = .ok (.iload 10, 2) := by decide +kernel
theorem dX6_files_92 : decode cX6_files 92 = .ok (.iadd, 1) := by decide +kernel
theorem dX6_files_93 : decode cX6_files 93 = .ok (.aload_n 0, 1) := by decide +kernel
theorem dX6_files_94 : decode cX6_files 94 = .ok (.getfield 7, 3) := by decide +kernel
theorem dX6_files_97 : decode cX6_files 97 = .ok (.iconst 1, 1) := by decide +kernel
theorem dX6_files_98 : decode cX6_files 98 = .ok (.iaload, 1) := by decide +kernel
theorem dX6_files_99 : decode cX6_files 99 = .ok (.isub, 1) := by decide +kernel
theorem dX6_files_100 : decode cX6_files 100 = .ok (.aload_n 0, 1) := by decide +kernel
theorem dX6_files_101 : decode cX6_files 101 = .ok (.getfield 7, 3) := by decide +kernel
theorem dX6_files_104 : decode cX6_files 104 = .ok (.bipush 6, 2) := by decide +kernel
theorem dX6_files_106 : decode cX6_files 106 = .ok (.iaload, 1) := by decide +kernel
theorem dX6_files_107 : decode cX6_files 107 = .ok (.if_icmp .ge 8, 3) := by decide +kernel
theorem dX6_files_110 : decode cX6_files 110 = .ok (.aload_n 0, 1) := by decide +kernel
theorem dX6_files_111 : decode cX6_files 111 = .ok (.iload_n 1, 1) := by decide +kernel
theorem dX6_files_112 : decode cX6_files 112 = .ok (.invokevirtual 66, 3) := by decide +kernel
theorem dX6_files_115 : decode cX6_files 115 = .ok (.aload_n 0, 1) := by decide +kernel
theorem dX6_files_116 : decode cX6_files 116 = .ok (.getfield 7, 3) := by decide +kernel
theorem dX6_files_119 : decode cX6_files 119 = .ok (.iload_n 1, 1) := by decide +kernel
theorem dX6_files_120 : decode cX6_files 120 = .ok (.sipush 188, 3) := by decide +kernel
theorem dX6_files_123 : decode cX6_files 123 = .ok (.iload 8, 2) := by decide +kernel
theorem dX6_files_125 : decode cX6_files 125 = .ok (.iadd, 1) := by decide +kernel
theorem dX6_files_126 : decode cX6_files 126 = .ok (.invokestatic 46, 3) := by decide +kernel
theorem dX6_files_129 : decode cX6_files 129 = .ok (.iload 7, 2) := by decide +kernel
theorem dX6_files_131 : decode cX6_files 131 = .ok (.iastore, 1) := by decide +kernel
theorem dX6_files_132 : decode cX6_files 132 = .ok (.iinc 8 1, 3) := by decide +kernel
theorem dX6_files_135 : decode cX6_files 135 = .ok (.goto (-117), 3) := by decide +kernel
theorem dX6_files_138 : decode cX6_files 138 = .ok (.iload 6, 2) := by decide +kernel
theorem dX6_files_140 : decode cX6_files 140 = .ok (.ireturn, 1) := by decide +kernel
theorem dX6_tests_0 : decode cX6_tests 0 = .ok (.aload_n 0, 1) := by decide +kernel
theorem dX6_tests_1 : decode cX6_tests 1 = .ok (.iload_n 1, 1) := by decide +kernel
theorem dX6_tests_2 : decode cX6_tests 2 = .ok (.aload_n 0, 1) := by decide +kernel
theorem dX6_tests_3 : decode cX6_tests 3 = .ok (.getfield 7, 3) := by decide +kernel
theorem dX6_tests_6 : decode cX6_tests 6 = .ok (.iconst 0, 1) := by decide +kernel
theorem dX6_tests_7 : decode cX6_tests 7 = .ok (.iaload, 1) := by decide +kernel
theorem dX6_tests_8 : decode cX6_tests 8 = .ok (.invokevirtual 53, 3) := by decide +kernel
theorem dX6_tests_11 : decode cX6_tests 11 = .ok (.ifCond .eq 42, 3) := by decide +kernel
theorem dX6_tests_14 : decode cX6_tests 14 = .ok (.aload_n 0, 1) := by decide +kernel
theorem dX6_tests_15 : decode cX6_tests 15 = .ok (.iload_n 1, 1) := by decide +kernel
theorem dX6_tests_16 : decode cX6_tests 16 = .ok (.aload_n 0, 1) := by decide +kernel
theorem dX6_tests_17 : decode cX6_tests 17 = .ok (.getfield 7, 3) := by decide +kernel
theorem dX6_tests_20 : decode cX6_tests 20 = .ok (.iconst 0, 1) := by decide +kernel
theorem dX6_tests_21 : decode cX6_tests 21 = .ok (.iaload, 1) := by decide +kernel
theorem dX6_tests_22 : decode cX6_tests 22 = .ok (.invokevirtual 70, 3) := by decide +kernel
theorem dX6_tests_25 : decode cX6_tests 25 = .ok (.iload_n 2, 1) := by decide +kernel
theorem dX6_tests_26 : decode cX6_tests 26 = .ok (.if_icmp .ne 27, 3) := by decide +kernel
theorem dX6_tests_29 : decode cX6_tests 29 = .ok (.aload_n 0, 1) := by decide +kernel
theorem dX6_tests_30 : decode cX6_tests 30 = .ok (.iload_n 1, 1) := by decide +kernel
theorem dX6_tests_31 : decode cX6_tests 31 = .ok (.aload_n 0, 1) := by decide +kernel
theorem dX6_tests_32 : decode cX6_tests 32 = .ok (.getfield 7, 3) := by decide +kernel
theorem dX6_tests_35 : decode cX6_tests 35 = .ok (.iconst 0, 1) := by decide +kernel
theorem dX6_tests_36 : decode cX6_tests 36 = .ok (.iaload, 1) := by decide +kernel
theorem dX6_tests_37 : decode cX6_tests 37 = .ok (.invokevirtual 63, 3) := by decide +kernel
theorem dX6_tests_40 : decode cX6_tests 40 = .ok (.aload_n 0, 1) := by decide +kernel
theorem dX6_tests_41 : decode cX6_tests 41 = .ok (.getfield 7, 3) := by decide +kernel
theorem dX6_tests_44 : decode cX6_tests 44 = .ok (.iconst 1, 1) := by decide +kernel
theorem dX6_tests_45 : decode cX6_tests 45 = .ok (.iaload, 1) := by decide +kernel
theorem dX6_tests_46 : decode cX6_tests 46 = .ok (.if_icmp .ne 7, 3) := by decide +kernel
theorem dX6_tests_49 : decode cX6_tests 49 = .ok (.iconst 1, 1) := by decide +kernel
theorem dX6_tests_50 : decode cX6_tests 50 = .ok (.goto 4, 3) := by decide +kernel
theorem dX6_tests_53 : decode cX6_tests 53 = .ok (.iconst 0, 1) := by decide +kernel
theorem dX6_tests_54 : decode cX6_tests 54 = .ok (.istore 4, 2) := by decide +kernel
theorem dX6_tests_56 : decode cX6_tests 56 = .ok (.aload_n 0, 1) := by decide +kernel
theorem dX6_tests_57 : decode cX6_tests 57 = .ok (.getfield 7, 3) := by decide +kernel
theorem dX6_tests_60 : decode cX6_tests 60 = .ok (.iload_n 1, 1) := by decide +kernel
theorem dX6_tests_61 : decode cX6_tests 61 = .ok (.iconst 2, 1) := by decide +kernel
theorem dX6_tests_62 : decode cX6_tests 62 = .ok (.invokestatic 46, 3) := by decide +kernel
theorem dX6_tests_65 : decode cX6_tests 65 = .ok (.dup2, 1) := by decide +kernel
theorem dX6_tests_66 : decode cX6_tests 66 = .ok (.iaload, 1) := by decide +kernel
theorem dX6_tests_67 : decode cX6_tests 67 = .ok (.iconst 1, 1) := by decide +kernel
theorem dX6_tests_68 : decode cX6_tests 68 = .ok (.iadd, 1) := by decide +kernel
theorem dX6_tests_69 : decode cX6_tests 69 = .ok (.iastore, 1) := by decide +kernel
theorem dX6_tests_70 : decode cX6_tests 70 = .ok (.aload_n 0, 1) := by decide +kernel
theorem dX6_tests_71 : decode cX6_tests 71 = .ok (.getfield 7, 3) := by decide +kernel
theorem dX6_tests_74 : decode cX6_tests 74 = .ok (.iload_n 1, 1) := by decide +kernel
theorem dX6_tests_75 : decode cX6_tests 75 = .ok (.iconst 4, 1) := by decide +kernel
theorem dX6_tests_76 : decode cX6_tests 76 = .ok (.invokestatic 46, 3) := by decide +kernel
theorem dX6_tests_79 : decode cX6_tests 79 = .ok (.aload_n 0, 1) := by decide +kernel
theorem dX6_tests_80 : decode cX6_tests 80 = .ok (.getfield 7, 3) := by decide +kernel
theorem dX6_tests_83 : decode cX6_tests 83 = .ok (.iconst 0, 1) := by decide +kernel
theorem dX6_tests_84 : decode cX6_tests 84 = .ok (.iaload, 1) := by decide +kernel
theorem dX6_tests_85 : decode cX6_tests 85 = .ok (.iastore, 1) := by decide +kernel
theorem dX6_tests_86 : decode cX6_tests 86 = .ok (.iload_n 3, 1) := by decide +kernel
theorem dX6_tests_87 : decode cX6_tests 87 = .ok (.ifCond .eq 5, 3) := by decide +kernel
theorem dX6_tests_90 : decode cX6_tests 90 = .ok (.iconst 0, 1) := by decide +kernel
theorem dX6_tests_91 : decode cX6_tests 91 = .ok (.ireturn, 1) := by decide +kernel
theorem dX6_tests_92 : decode cX6_tests 92 = .ok (.iload 4, 2) := by decide +kernel
theorem dX6_tests_94 : decode cX6_tests 94 = .ok (.ifCond .ne 5, 3) := by decide +kernel
theorem dX6_tests_97 : decode cX6_tests 97 = .ok (.iconst 2, 1) := by decide +kernel
theorem dX6_tests_98 : decode cX6_tests 98 = .ok (.ireturn, 1) := by decide +kernel
theorem dX6_tests_99 : decode cX6_tests 99 = .ok (.aload_n 0, 1) := by decide +kernel
theorem dX6_tests_100 : decode cX6_tests 100 = .ok (.getfield 7, 3) := by decide +kernel
theorem dX6_tests_103 : decode cX6_tests 103 = .ok (.iload_n 1, 1) := by decide +kernel
theorem dX6_tests_104 : decode cX6_tests 104 = .ok (.iconst 3, 1) := by decide +kernel
theorem dX6_tests_105 : decode cX6_tests 105 = .ok (.invokestatic 46, 3) := by decide +kernel
theorem dX6_tests_108 : decode cX6_tests 108 = .ok (.dup2, 1) := by decide +kernel
theorem dX6_tests_109 : decode cX6_tests 109 = .ok (.iaload, 1) := by decide +kernel
theorem dX6_tests_110 : decode cX6_tests 110 = .ok (.iconst 1, 1) := by decide +kernel
theorem dX6_tests_111 : decode cX6_tests 111 = .ok (.iadd, 1) := by decide +kernel
theorem dX6_tests_112 : decode cX6_tests 112 = .ok (.iastore, 1) := by decide +kernel
theorem dX6_tests_113 : decode cX6_tests 113 = .ok (.aload_n 0, 1) := by decide +kernel
theorem dX6_tests_114 : decode cX6_tests 114 = .ok (.iload_n 1, 1) := by decide +kernel
theorem dX6_tests_115 : decode cX6_tests 115 = .ok (.aload_n 0, 1) := by decide +kernel
theorem dX6_tests_116 : decode cX6_tests 116 = .ok (.getfield 7, 3) := by decide +kernel
theorem dX6_tests_119 : decode cX6_tests 119 = .ok (.iconst 0, 1) := by decide +kernel
theorem dX6_tests_120 : decode cX6_tests 120 = .ok (.iaload, 1) := by decide +kernel
theorem dX6_tests_121 : decode cX6_tests 121 = .ok (.iconst 2, 1) := by decide +kernel
theorem dX6_tests_122 : decode cX6_tests 122 = .ok (.invokevirtual 60, 3) := by decide +kernel
theorem dX6_tests_125 : decode cX6_tests 125 = .ok (.pop, 1) := by decide +kernel
theorem dX6_tests_126 : decode cX6_tests 126 = .ok (.iconst 1, 1) := by decide +kernel
theorem dX6_tests_127 : decode cX6_tests 127 = .ok (.ireturn, 1) := by decide +kernel
theorem dX6_isFailure_0 : decode cX6_isFailure 0 = .ok (.aload_n 0, 1) := by decide +kernel
theorem dX6_isFailure_1 : decode cX6_isFailure 1 = .ok (.iload_n 1, 1) := by decide +kernel
theorem dX6_isFailure_2 : decode cX6_isFailure 2 = .ok (.invokevirtual 73, 3) := by decide +kernel
theorem dX6_isFailure_5 : decode cX6_isFailure 5 = .ok (.ifCond .eq 24, 3) := by decide +kernel
theorem dX6_isFailure_8 : decode cX6_isFailure 8 = .ok (.iload_n 2, 1) := by decide +kernel
theorem dX6_isFailure_9 : decode cX6_isFailure 9 = .ok (.iconst 0, 1) := by decide +kernel
theorem dX6_isFailure_10 : decode cX6_isFailure 10 = .ok (.aload_n 0, 1) := by decide +kernel
theorem dX6_isFailure_11 : decode cX6_isFailure 11 = .ok (.iload_n 1, 1) := by decide +kernel
theorem dX6_isFailure_12 : decode cX6_isFailure 12 = .ok (.bipush 7, 2) := by decide +kernel
theorem dX6_isFailure_14 : decode cX6_isFailure 14 = .ok (.invokevirtual 50, 3) := by decide +kernel
theorem dX6_isFailure_17 : decode cX6_isFailure 17 = .ok (.iconst 1, 1) := by decide +kernel
theorem dX6_isFailure_18 : decode cX6_isFailure 18 = .ok (.isub, 1) := by decide +kernel
theorem dX6_isFailure_19 : decode cX6_isFailure 19 = .ok (.invokestatic 42, 3) := by decide +kernel
theorem dX6_isFailure_22 : decode cX6_isFailure 22 = .ok (.ifCond .eq 7, 3) := by decide +kernel
theorem dX6_isFailure_25 : decode cX6_isFailure 25 = .ok (.iconst 1, 1) := by decide +kernel
theorem dX6_isFailure_26 : decode cX6_isFailure 26 = .ok (.goto 4, 3) := by decide +kernel
theorem dX6_isFailure_29 : decode cX6_isFailure 29 = .ok (.iconst 0, 1) := by decide +kernel
theorem dX6_isFailure_30 : decode cX6_isFailure 30 = .ok (.ireturn, 1) := by decide +kernel
theorem dX6_strikes_0 : decode cX6_strikes 0 = .ok (.aload_n 0, 1) := by decide +kernel
theorem dX6_strikes_1 : decode cX6_strikes 1 = .ok (.getfield 7, 3) := by decide +kernel
theorem dX6_strikes_4 : decode cX6_strikes 4 = .ok (.iload_n 1, 1) := by decide +kernel
theorem dX6_strikes_5 : decode cX6_strikes 5 = .ok (.bipush 8, 2) := by decide +kernel
theorem dX6_strikes_7 : decode cX6_strikes 7 = .ok (.iconst 3, 1) := by decide +kernel
theorem dX6_strikes_8 : decode cX6_strikes 8 = .ok (.iload_n 2, 1) := by decide +kernel
theorem dX6_strikes_9 : decode cX6_strikes 9 = .ok (.imul, 1) := by decide +kernel
theorem dX6_strikes_10 : decode cX6_strikes 10 = .ok (.iadd, 1) := by decide +kernel
theorem dX6_strikes_11 : decode cX6_strikes 11 = .ok (.iconst 2, 1) := by decide +kernel
theorem dX6_strikes_12 : decode cX6_strikes 12 = .ok (.iadd, 1) := by decide +kernel
theorem dX6_strikes_13 : decode cX6_strikes 13 = .ok (.invokestatic 46, 3) := by decide +kernel
theorem dX6_strikes_16 : decode cX6_strikes 16 = .ok (.iaload, 1) := by decide +kernel
theorem dX6_strikes_17 : decode cX6_strikes 17 = .ok (.iconst 1, 1) := by decide +kernel
theorem dX6_strikes_18 : decode cX6_strikes 18 = .ok (.if_icmp .eq 35, 3) := by decide +kernel
theorem dX6_strikes_21 : decode cX6_strikes 21 = .ok (.aload_n 0, 1) := by decide +kernel
theorem dX6_strikes_22 : decode cX6_strikes 22 = .ok (.getfield 7, 3) := by decide +kernel
theorem dX6_strikes_25 : decode cX6_strikes 25 = .ok (.iconst 0, 1) := by decide +kernel
theorem dX6_strikes_26 : decode cX6_strikes 26 = .ok (.iaload, 1) := by decide +kernel
theorem dX6_strikes_27 : decode cX6_strikes 27 = .ok (.aload_n 0, 1) := by decide +kernel
theorem dX6_strikes_28 : decode cX6_strikes 28 = .ok (.getfield 7, 3) := by decide +kernel
theorem dX6_strikes_31 : decode cX6_strikes 31 = .ok (.iload_n 1, 1) := by decide +kernel
theorem dX6_strikes_32 : decode cX6_strikes 32 = .ok (.bipush 8, 2) := by decide +kernel
theorem dX6_strikes_34 : decode cX6_strikes 34 = .ok (.iconst 3, 1) := by decide +kernel
theorem dX6_strikes_35 : decode cX6_strikes 35 = .ok (.iload_n 2, 1) := by decide +kernel
theorem dX6_strikes_36 : decode cX6_strikes 36 = .ok (.imul, 1) := by decide +kernel
theorem dX6_strikes_37 : decode cX6_strikes 37 = .ok (.iadd, 1) := by decide +kernel
theorem dX6_strikes_38 : decode cX6_strikes 38 = .ok (.invokestatic 46, 3) := by decide +kernel
theorem dX6_strikes_41 : decode cX6_strikes 41 = .ok (.iaload, 1) := by decide +kernel
theorem dX6_strikes_42 : decode cX6_strikes 42 = .ok (.aload_n 0, 1) := by decide +kernel
theorem dX6_strikes_43 : decode cX6_strikes 43 = .ok (.getfield 7, 3) := by decide +kernel
theorem dX6_strikes_46 : decode cX6_strikes 46 = .ok (.bipush 8, 2) := by decide +kernel
theorem dX6_strikes_48 : decode cX6_strikes 48 = .ok (.iaload, 1) := by decide +kernel
theorem dX6_strikes_49 : decode cX6_strikes 49 = .ok (.iadd, 1) := by decide +kernel

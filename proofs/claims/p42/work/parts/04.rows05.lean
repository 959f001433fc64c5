theorem dX10_isOwner_29 : decode cX10_isOwner 29 = .ok (.ireturn, 1) := by decide +kernel
theorem dX10_isDrive_0 : decode cX10_isDrive 0 = .ok (.iload_n 1, 1) := by decide +kernel
theorem dX10_isDrive_1 : decode cX10_isDrive 1 = .ok (.i2l, 1) := by decide +kernel
theorem dX10_isDrive_2 : decode cX10_isDrive 2 = .ok (.lconst 0, 1) := by decide +kernel
theorem dX10_isDrive_3 : decode cX10_isDrive 3 = .ok (.aload_n 0, 1) := by decide +kernel
theorem dX10_isDrive_4 : decode cX10_isDrive 4 = .ok (.getfield 34, 3) := by decide +kernel
theorem dX10_isDrive_7 : decode cX10_isDrive 7 = .ok (.iconst 3, 1) := by decide +kernel
theorem dX10_isDrive_8 : decode cX10_isDrive 8 = .ok (.iaload, 1) := by decide +kernel
theorem dX10_isDrive_9 : decode cX10_isDrive 9 = .ok (.iconst 1, 1) := by decide +kernel
theorem dX10_isDrive_10 : decode cX10_isDrive 10 = .ok (.isub, 1) := by decide +kernel
theorem dX10_isDrive_11 : decode cX10_isDrive 11 = .ok (.i2l, 1) := by decide +kernel
theorem dX10_isDrive_12 : decode cX10_isDrive 12 = .ok (.invokestatic 109, 3) := by decide +kernel
theorem dX10_isDrive_15 : decode cX10_isDrive 15 = .ok (.ireturn, 1) := by decide +kernel
theorem dX10_isHour_0 : decode cX10_isHour 0 = .ok (.iload_n 0, 1) := by decide +kernel
theorem dX10_isHour_1 : decode cX10_isHour 1 = .ok (.i2l, 1) := by decide +kernel
theorem dX10_isHour_2 : decode cX10_isHour 2 = .ok (.lconst 0, 1) := by decide +kernel
theorem dX10_isHour_3 : decode cX10_isHour 3 = .ok (.ldc2_w 283, 3) := by decide +kernel
theorem dX10_isHour_6 : decode cX10_isHour 6 = .ok (.invokestatic 109, 3) := by decide +kernel
theorem dX10_isHour_9 : decode cX10_isHour 9 = .ok (.ireturn, 1) := by decide +kernel
theorem dX10_of_0 : decode cX10_of 0 = .ok (.aload_n 0, 1) := by decide +kernel
theorem dX10_of_1 : decode cX10_of 1 = .ok (.getfield 46, 3) := by decide +kernel
theorem dX10_of_4 : decode cX10_of 4 = .ok (.bipush 8, 2) := by decide +kernel
theorem dX10_of_6 : decode cX10_of 6 = .ok (.iload_n 1, 1) := by decide +kernel
theorem dX10_of_7 : decode cX10_of 7 = .ok (.imul, 1) := by decide +kernel
theorem dX10_of_8 : decode cX10_of 8 = .ok (.iload_n 2, 1) := by decide +kernel
theorem dX10_of_9 : decode cX10_of 9 = .ok (.iadd, 1) := by decide +kernel
theorem dX10_of_10 : decode cX10_of 10 = .ok (.iaload, 1) := by decide +kernel
theorem dX10_of_11 : decode cX10_of 11 = .ok (.ireturn, 1) := by decide +kernel
theorem dX10_timeOf_0 : decode cX10_timeOf 0 = .ok (.bipush 24, 2) := by decide +kernel
theorem dX10_timeOf_2 : decode cX10_timeOf 2 = .ok (.aload_n 0, 1) := by decide +kernel
theorem dX10_timeOf_3 : decode cX10_timeOf 3 = .ok (.iload_n 1, 1) := by decide +kernel
theorem dX10_timeOf_4 : decode cX10_timeOf 4 = .ok (.iconst 2, 1) := by decide +kernel
theorem dX10_timeOf_5 : decode cX10_timeOf 5 = .ok (.invokevirtual 285, 3) := by decide +kernel
theorem dX10_timeOf_8 : decode cX10_timeOf 8 = .ok (.imul, 1) := by decide +kernel
theorem dX10_timeOf_9 : decode cX10_timeOf 9 = .ok (.aload_n 0, 1) := by decide +kernel
theorem dX10_timeOf_10 : decode cX10_timeOf 10 = .ok (.iload_n 1, 1) := by decide +kernel
theorem dX10_timeOf_11 : decode cX10_timeOf 11 = .ok (.iconst 3, 1) := by decide +kernel
theorem dX10_timeOf_12 : decode cX10_timeOf 12 = .ok (.invokevirtual 285, 3) := by decide +kernel
theorem dX10_timeOf_15 : decode cX10_timeOf 15 = .ok (.iadd, 1) := by decide +kernel
theorem dX10_timeOf_16 : decode cX10_timeOf 16 = .ok (.aload_n 0, 1) := by decide +kernel
theorem dX10_timeOf_17 : decode cX10_timeOf 17 = .ok (.iload_n 1, 1) := by decide +kernel
theorem dX10_timeOf_18 : decode cX10_timeOf 18 = .ok (.bipush 7, 2) := by decide +kernel
theorem dX10_timeOf_20 : decode cX10_timeOf 20 = .ok (.invokevirtual 285, 3) := by decide +kernel
theorem dX10_timeOf_23 : decode cX10_timeOf 23 = .ok (.iadd, 1) := by decide +kernel
theorem dX10_timeOf_24 : decode cX10_timeOf 24 = .ok (.ireturn, 1) := by decide +kernel
theorem dX10_end__0 : decode cX10_end_ 0 = .ok (.bipush 24, 2) := by decide +kernel
theorem dX10_end__2 : decode cX10_end_ 2 = .ok (.aload_n 0, 1) := by decide +kernel
theorem dX10_end__3 : decode cX10_end_ 3 = .ok (.getfield 34, 3) := by decide +kernel
theorem dX10_end__6 : decode cX10_end_ 6 = .ok (.iconst 1, 1) := by decide +kernel
theorem dX10_end__7 : decode cX10_end_ 7 = .ok (.iaload, 1) := by decide +kernel
theorem dX10_end__8 : decode cX10_end_ 8 = .ok (.imul, 1) := by decide +kernel
theorem dX10_end__9 : decode cX10_end_ 9 = .ok (.ireturn, 1) := by decide +kernel
theorem dX10_drive_0 : decode cX10_drive 0 = .ok (.aload_n 0, 1) := by decide +kernel
theorem dX10_drive_1 : decode cX10_drive 1 = .ok (.iconst 0, 1) := by decide +kernel
theorem dX10_drive_2 : decode cX10_drive 2 = .ok (.putfield 104, 3) := by decide +kernel
theorem dX10_drive_5 : decode cX10_drive 5 = .ok (.aload_n 0, 1) := by decide +kernel
theorem dX10_drive_6 : decode cX10_drive 6 = .ok (.iload_n 1, 1) := by decide +kernel
theorem dX10_drive_7 : decode cX10_drive 7 = .ok (.invokevirtual 288, 3) := by decide +kernel
theorem dX10_drive_10 : decode cX10_drive 10 = .ok (.ifCond .eq 24, 3) := by decide +kernel
theorem dX10_drive_13 : decode cX10_drive 13 = .ok (.iload_n 2, 1) := by decide +kernel
theorem dX10_drive_14 : decode cX10_drive 14 = .ok (.i2l, 1) := by decide +kernel
theorem dX10_drive_15 : decode cX10_drive 15 = .ok (.lconst 0, 1) := by decide +kernel
theorem dX10_drive_16 : decode cX10_drive 16 = .ok (.ldc2_w 291, 3) := by decide +kernel
theorem dX10_drive_19 : decode cX10_drive 19 = .ok (.invokestatic 109, 3) := by decide +kernel
theorem dX10_drive_22 : decode cX10_drive 22 = .ok (.ifCond .eq 12, 3) := by decide +kernel
theorem dX10_drive_25 : decode cX10_drive 25 = .ok (.aload_n 0, 1) := by decide +kernel
theorem dX10_drive_26 : decode cX10_drive 26 = .ok (.iload_n 1, 1) := by decide +kernel
theorem dX10_drive_27 : decode cX10_drive 27 = .ok (.iload_n 2, 1) := by decide +kernel
theorem dX10_drive_28 : decode cX10_drive 28 = .ok (.invokevirtual 285, 3) := by decide +kernel
theorem dX10_drive_31 : decode cX10_drive 31 = .ok (.goto 5, 3) := by decide +kernel
theorem dX10_drive_34 : decode cX10_drive 34 = .ok (.bipush (-2), 2) := by decide +kernel
theorem dX10_drive_36 : decode cX10_drive 36 = .ok (.ireturn, 1) := by decide +kernel
theorem dX10_goes_0 : decode cX10_goes 0 = .ok (.aload_n 0, 1) := by decide +kernel
theorem dX10_goes_1 : decode cX10_goes 1 = .ok (.iconst 0, 1) := by decide +kernel
theorem dX10_goes_2 : decode cX10_goes 2 = .ok (.putfield 104, 3) := by decide +kernel
theorem dX10_goes_5 : decode cX10_goes 5 = .ok (.aload_n 0, 1) := by decide +kernel
theorem dX10_goes_6 : decode cX10_goes 6 = .ok (.iload_n 1, 1) := by decide +kernel
theorem dX10_goes_7 : decode cX10_goes 7 = .ok (.invokevirtual 288, 3) := by decide +kernel
theorem dX10_goes_10 : decode cX10_goes 10 = .ok (.ifCond .ne 8, 3) := by decide +kernel
theorem dX10_goes_13 : decode cX10_goes 13 = .ok (.bipush (-2), 2) := by decide +kernel
theorem dX10_goes_15 : decode cX10_goes 15 = .ok (.goto 24, 3) := by decide +kernel
theorem dX10_goes_18 : decode cX10_goes 18 = .ok (.aload_n 0, 1) := by decide +kernel
theorem dX10_goes_19 : decode cX10_goes 19 = .ok (.iload_n 1, 1) := by decide +kernel
theorem dX10_goes_20 : decode cX10_goes 20 = .ok (.invokevirtual 293, 3) := by decide +kernel
theorem dX10_goes_23 : decode cX10_goes 23 = .ok (.aload_n 0, 1) := by decide +kernel
theorem dX10_goes_24 : decode cX10_goes 24 = .ok (.invokevirtual 296, 3) := by decide +kernel
theorem dX10_goes_27 : decode cX10_goes 27 = .ok (.if_icmp .ge 11, 3) := by decide +kernel
theorem dX10_goes_30 : decode cX10_goes 30 = .ok (.aload_n 0, 1) := by decide +kernel
theorem dX10_goes_31 : decode cX10_goes 31 = .ok (.iload_n 1, 1) := by decide +kernel
theorem dX10_goes_32 : decode cX10_goes 32 = .ok (.invokevirtual 293, 3) := by decide +kernel
theorem dX10_goes_35 : decode cX10_goes 35 = .ok (.goto 4, 3) := by decide +kernel
theorem dX10_goes_38 : decode cX10_goes 38 = .ok (.iconst (-1), 1) := by decide +kernel
theorem dX10_goes_39 : decode cX10_goes 39 = .ok (.ireturn, 1) := by decide +kernel
theorem dX10_law_0 : decode cX10_law 0 = .ok (.aload_n 0, 1) := by decide +kernel
theorem dX10_law_1 : decode cX10_law 1 = .ok (.iconst 0, 1) := by decide +kernel
theorem dX10_law_2 : decode cX10_law 2 = .ok (.putfield 104, 3) := by decide +kernel
theorem dX10_law_5 : decode cX10_law 5 = .ok (.aload_n 0, 1) := by decide +kernel
theorem dX10_law_6 : decode cX10_law 6 = .ok (.invokevirtual 280, 3) := by decide +kernel
theorem dX10_law_9 : decode cX10_law 9 = .ok (.ifCond .eq 58, 3) := by decide +kernel
theorem dX10_law_12 : decode cX10_law 12 = .ok (.iload_n 1, 1) := by decide +kernel
theorem dX10_law_13 : decode cX10_law 13 = .ok (.i2l, 1) := by decide +kernel
theorem dX10_law_14 : decode cX10_law 14 = .ok (.lconst 0, 1) := by decide +kernel
theorem dX10_law_15 : decode cX10_law 15 = .ok (.ldc2_w 300, 3) := by decide +kernel
theorem dX10_law_18 : decode cX10_law 18 = .ok (.invokestatic 109, 3) := by decide +kernel
theorem dX10_law_21 : decode cX10_law 21 = .ok (.ifCond .eq 46, 3) := by decide +kernel
theorem dX10_law_24 : decode cX10_law 24 = .ok (.iload_n 2, 1) := by decide +kernel
theorem dX10_law_25 : decode cX10_law 25 = .ok (.i2l, 1) := by decide +kernel
theorem dX10_law_26 : decode cX10_law 26 = .ok (.iload_n 1, 1) := by decide +kernel
theorem dX10_law_27 : decode cX10_law 27 = .ok (.iconst 3, 1) := by decide +kernel
theorem dX10_law_28 : decode cX10_law 28 = .ok (.if_icmp .ne 9, 3) := by decide +kernel
theorem dX10_law_31 : decode cX10_law 31 = .ok (.ldc2_w 302, 3) := by decide +kernel
theorem dX10_law_34 : decode cX10_law 34 = .ok (.goto 4, 3) := by decide +kernel
theorem dX10_law_37 : decode cX10_law 37 = .ok (.lconst 0, 1) := by decide +kernel
theorem dX10_law_38 : decode cX10_law 38 = .ok (.iload_n 1, 1) := by decide +kernel
theorem dX10_law_39 : decode cX10_law 39 = .ok (.iconst 3, 1) := by decide +kernel
theorem dX10_law_40 : decode cX10_law 40 = .ok (.if_icmp .ne 9, 3) := by decide +kernel
theorem dX10_law_43 : decode cX10_law 43 = .ok (.ldc2_w 304, 3) := by decide +kernel
theorem dX10_law_46 : decode cX10_law 46 = .ok (.goto 15, 3) := by decide +kernel
theorem dX10_law_49 : decode cX10_law 49 = .ok (.iload_n 1, 1) := by decide +kernel
theorem dX10_law_50 : decode cX10_law 50 = .ok (.iconst 4, 1) := by decide +kernel
theorem dX10_law_51 : decode cX10_law 51 = .ok (.if_icmp .ne 9, 3) := by decide +kernel
theorem dX10_law_54 : decode cX10_law 54 = .ok (.ldc2_w 306, 3) := by decide +kernel
theorem dX10_law_57 : decode cX10_law 57 = .ok (.goto 4, 3) := by decide +kernel
theorem dX10_law_60 : decode cX10_law 60 = .ok (.lconst 1, 1) := by decide +kernel
theorem dX10_law_61 : decode cX10_law 61 = .ok (.invokestatic 109, 3) := by decide +kernel
theorem dX10_law_64 : decode cX10_law 64 = .ok (.ifCond .ne 6, 3) := by decide +kernel
theorem dX10_law_67 : decode cX10_law 67 = .ok (.bipush (-2), 2) := by decide +kernel
theorem dX10_law_69 : decode cX10_law 69 = .ok (.ireturn, 1) := by decide +kernel
theorem dX10_law_70 : decode cX10_law 70 = .ok (.aload_n 0, 1) := by decide +kernel
theorem dX10_law_71 : decode cX10_law 71 = .ok (.getfield 37, 3) := by decide +kernel
theorem dX10_law_74 : decode cX10_law 74 = .ok (.iload_n 1, 1) := by decide +kernel
theorem dX10_law_75 : decode cX10_law 75 = .ok (.iaload, 1) := by decide +kernel
theorem dX10_law_76 : decode cX10_law 76 = .ok (.istore_n 3, 1) := by decide +kernel
theorem dX10_law_77 : decode cX10_law 77 = .ok (.aload_n 0, 1) := by decide +kernel
theorem dX10_law_78 : decode cX10_law 78 = .ok (.getfield 37, 3) := by decide +kernel
theorem dX10_law_81 : decode cX10_law 81 = .ok (.iload_n 1, 1) := by decide +kernel
theorem dX10_law_82 : decode cX10_law 82 = .ok (.iload_n 2, 1) := by decide +kernel
theorem dX10_law_83 : decode cX10_law 83 = .ok (.iastore, 1) := by decide +kernel
theorem dX10_law_84 : decode cX10_law 84 = .ok (.iload_n 3, 1) := by decide +kernel
theorem dX10_law_85 : decode cX10_law 85 = .ok (.ireturn, 1) := by decide +kernel
theorem dX10_sets_0 : decode cX10_sets 0 = .ok (.aload_n 0, 1) := by decide +kernel
theorem dX10_sets_1 : decode cX10_sets 1 = .ok (.iconst 0, 1) := by decide +kernel
theorem dX10_sets_2 : decode cX10_sets 2 = .ok (.putfield 104, 3) := by decide +kernel
theorem dX10_sets_5 : decode cX10_sets 5 = .ok (.aload_n 0, 1) := by decide +kernel
theorem dX10_sets_6 : decode cX10_sets 6 = .ok (.iload_n 1, 1) := by decide +kernel
theorem dX10_sets_7 : decode cX10_sets 7 = .ok (.invokevirtual 288, 3) := by decide +kernel
theorem dX10_sets_10 : decode cX10_sets 10 = .ok (.ifCond .eq 18, 3) := by decide +kernel
theorem dX10_sets_13 : decode cX10_sets 13 = .ok (.aload_n 0, 1) := by decide +kernel
theorem dX10_sets_14 : decode cX10_sets 14 = .ok (.iload_n 2, 1) := by decide +kernel
theorem dX10_sets_15 : decode cX10_sets 15 = .ok (.invokevirtual 308, 3) := by decide +kernel
theorem dX10_sets_18 : decode cX10_sets 18 = .ok (.ifCond .eq 10, 3) := by decide +kernel
theorem dX10_sets_21 : decode cX10_sets 21 = .ok (.iload_n 3, 1) := by decide +kernel
theorem dX10_sets_22 : decode cX10_sets 22 = .ok (.invokestatic 311, 3) := by decide +kernel
theorem dX10_sets_25 : decode cX10_sets 25 = .ok (.ifCond .ne 6, 3) := by decide +kernel
theorem dX10_sets_28 : decode cX10_sets 28 = .ok (.bipush (-2), 2) := by decide +kernel
theorem dX10_sets_30 : decode cX10_sets 30 = .ok (.ireturn, 1) := by decide +kernel
theorem dX10_sets_31 : decode cX10_sets 31 = .ok (.bipush 100, 2) := by decide +kernel
theorem dX10_sets_33 : decode cX10_sets 33 = .ok (.aload_n 0, 1) := by decide +kernel
theorem dX10_sets_34 : decode cX10_sets 34 = .ok (.iload_n 1, 1) := by decide +kernel
theorem dX10_sets_35 : decode cX10_sets 35 = .ok (.iconst 1, 1) := by decide +kernel
theorem dX10_sets_36 : decode cX10_sets 36 = .ok (.invokevirtual 285, 3) := by decide +kernel
theorem dX10_sets_39 : decode cX10_sets 39 = .ok (.imul, 1) := by decide +kernel
theorem dX10_sets_40 : decode cX10_sets 40 = .ok (.aload_n 0, 1) := by decide +kernel
theorem dX10_sets_41 : decode cX10_sets 41 = .ok (.iload_n 1, 1) := by decide +kernel
theorem dX10_sets_42 : decode cX10_sets 42 = .ok (.iconst 3, 1) := by decide +kernel
theorem dX10_sets_43 : decode cX10_sets 43 = .ok (.invokevirtual 285, 3) := by decide +kernel
theorem dX10_sets_46 : decode cX10_sets 46 = .ok (.iadd, 1) := by decide +kernel
theorem dX10_sets_47 : decode cX10_sets 47 = .ok (.istore 4, 2) := by decide +kernel
theorem dX10_sets_49 : decode cX10_sets 49 = .ok (.aload_n 0, 1) := by decide +kernel
theorem dX10_sets_50 : decode cX10_sets 50 = .ok (.iload_n 1, 1) := by decide +kernel
theorem dX10_sets_51 : decode cX10_sets 51 = .ok (.iload_n 2, 1) := by decide +kernel
theorem dX10_sets_52 : decode cX10_sets 52 = .ok (.iload_n 3, 1) := by decide +kernel
theorem dX10_sets_53 : decode cX10_sets 53 = .ok (.invokevirtual 314, 3) := by decide +kernel
theorem dX10_sets_56 : decode cX10_sets 56 = .ok (.iload 4, 2) := by decide +kernel
theorem dX10_sets_58 : decode cX10_sets 58 = .ok (.ireturn, 1) := by decide +kernel
theorem dX10_goesTo_0 : decode cX10_goesTo 0 = .ok (.aload_n 0, 1) := by decide +kernel
theorem dX10_goesTo_1 : decode cX10_goesTo 1 = .ok (.getfield 46, 3) := by decide +kernel
theorem dX10_goesTo_4 : decode cX10_goesTo 4 = .ok (.bipush 8, 2) := by decide +kernel
theorem dX10_goesTo_6 : decode cX10_goesTo 6 = .ok (.iload_n 1, 1) := by decide +kernel
theorem dX10_goesTo_7 : decode cX10_goesTo 7 = .ok (.imul, 1) := by decide +kernel
theorem dX10_goesTo_8 : decode cX10_goesTo 8 = .ok (.iconst 1, 1) := by decide +kernel
theorem dX10_goesTo_9 : decode cX10_goesTo 9 = .ok (.iadd, 1) := by decide +kernel
theorem dX10_goesTo_10 : decode cX10_goesTo 10 = .ok (.iload_n 2, 1) := by decide +kernel
theorem dX10_goesTo_11 : decode cX10_goesTo 11 = .ok (.iastore, 1) := by decide +kernel
theorem dX10_goesTo_12 : decode cX10_goesTo 12 = .ok (.aload_n 0, 1) := by decide +kernel
theorem dX10_goesTo_13 : decode cX10_goesTo 13 = .ok (.getfield 46, 3) := by decide +kernel
theorem dX10_goesTo_16 : decode cX10_goesTo 16 = .ok (.bipush 8, 2) := by decide +kernel
theorem dX10_goesTo_18 : decode cX10_goesTo 18 = .ok (.iload_n 1, 1) := by decide +kernel
theorem dX10_goesTo_19 : decode cX10_goesTo 19 = .ok (.imul, 1) := by decide +kernel
theorem dX10_goesTo_20 : decode cX10_goesTo 20 = .ok (.iconst 3, 1) := by decide +kernel
theorem dX10_goesTo_21 : decode cX10_goesTo 21 = .ok (.iadd, 1) := by decide +kernel
theorem dX10_goesTo_22 : decode cX10_goesTo 22 = .ok (.iload_n 3, 1) := by decide +kernel
theorem dX10_goesTo_23 : decode cX10_goesTo 23 = .ok (.iastore, 1) := by decide +kernel
theorem dX10_goesTo_24 : decode cX10_goesTo 24 = .ok (.return_, 1) := by decide +kernel
theorem dX10_sorts_0 : decode cX10_sorts 0 = .ok (.aload_n 0, 1) := by decide +kernel
theorem dX10_sorts_1 : decode cX10_sorts 1 = .ok (.iconst 0, 1) := by decide +kernel
theorem dX10_sorts_2 : decode cX10_sorts 2 = .ok (.putfield 318, 3) := by decide +kernel
theorem dX10_sorts_5 : decode cX10_sorts 5 = .ok (.iconst 0, 1) := by decide +kernel
theorem dX10_sorts_6 : decode cX10_sorts 6 = .ok (.istore_n 1, 1) := by decide +kernel
theorem dX10_sorts_7 : decode cX10_sorts 7 = .ok (.iload_n 1, 1) := by decide +kernel
theorem dX10_sorts_8 : decode cX10_sorts 8 = .ok (.aload_n 0, 1) := by decide +kernel
theorem dX10_sorts_9 : decode cX10_sorts 9 = .ok (.getfield 321, 3) := by decide +kernel
theorem dX10_sorts_12 : decode cX10_sorts 12 = .ok (.if_icmp .ge 94, 3) := by decide +kernel
theorem dX10_sorts_15 : decode cX10_sorts 15 = .ok (.iload_n 1, 1) := by decide +kernel
theorem dX10_sorts_16 : decode cX10_sorts 16 = .ok (.aload_n 0, 1) := by decide +kernel
theorem dX10_sorts_17 : decode cX10_sorts 17 = .ok (.getfield 53, 3) := by decide +kernel
theorem dX10_sorts_20 : decode cX10_sorts 20 = .ok (.if_icmp .eq 80, 3) := by decide +kernel
theorem dX10_sorts_23 : decode cX10_sorts 23 = .ok (.aload_n 0, 1) := by decide +kernel
theorem dX10_sorts_24 : decode cX10_sorts 24 = .ok (.iload_n 1, 1) := by decide +kernel
theorem dX10_sorts_25 : decode cX10_sorts 25 = .ok (.invokevirtual 293, 3) := by decide +kernel
theorem dX10_sorts_28 : decode cX10_sorts 28 = .ok (.aload_n 0, 1) := by decide +kernel
theorem dX10_sorts_29 : decode cX10_sorts 29 = .ok (.invokevirtual 296, 3) := by decide +kernel
theorem dX10_sorts_32 : decode cX10_sorts 32 = .ok (.if_icmp .lt 6, 3) := by decide +kernel
theorem dX10_sorts_35 : decode cX10_sorts 35 = .ok (.goto 65, 3) := by decide +kernel
theorem dX10_sorts_38 : decode cX10_sorts 38 = .ok (.aload_n 0, 1) := by decide +kernel
theorem dX10_sorts_39 : decode cX10_sorts 39 = .ok (.getfield 318, 3) := by decide +kernel
theorem dX10_sorts_42 : decode cX10_sorts 42 = .ok (.istore_n 2, 1) := by decide +kernel
theorem dX10_sorts_43 : decode cX10_sorts 43 = .ok (.iload_n 2, 1) := by decide +kernel
theorem dX10_sorts_44 : decode cX10_sorts 44 = .ok (.ifCond .le 39, 3) := by decide +kernel
theorem dX10_sorts_47 : decode cX10_sorts 47 = .ok (.aload_n 0, 1) := by decide +kernel
theorem dX10_sorts_48 : decode cX10_sorts 48 = .ok (.iload_n 1, 1) := by decide +kernel
theorem dX10_sorts_49 : decode cX10_sorts 49 = .ok (.aload_n 0, 1) := by decide +kernel
theorem dX10_sorts_50 : decode cX10_sorts 50 = .ok (.getfield 56, 3) := by decide +kernel
theorem dX10_sorts_53 : decode cX10_sorts 53 = .ok (.iload_n 2, 1) := by decide +kernel
theorem dX10_sorts_54 : decode cX10_sorts 54 = .ok (.iconst 1, 1) := by decide +kernel
theorem dX10_sorts_55 : decode cX10_sorts 55 = .ok (.isub, 1) := by decide +kernel
theorem dX10_sorts_56 : decode cX10_sorts 56 = .ok (.iaload, 1) := by decide +kernel
theorem dX10_sorts_57 : decode cX10_sorts 57 = .ok (.invokevirtual 324, 3) := by decide +kernel
theorem dX10_sorts_60 : decode cX10_sorts 60 = .ok (.ifCond .eq 23, 3) := by decide +kernel
theorem dX10_sorts_63 : decode cX10_sorts 63 = .ok (.aload_n 0, 1) := by decide +kernel
theorem dX10_sorts_64 : decode cX10_sorts 64 = .ok (.getfield 56, 3) := by decide +kernel
theorem dX10_sorts_67 : decode cX10_sorts 67 = .ok (.iload_n 2, 1) := by decide +kernel
theorem dX10_sorts_68 : decode cX10_sorts 68 = .ok (.aload_n 0, 1) := by decide +kernel
theorem dX10_sorts_69 : decode cX10_sorts 69 = .ok (.getfield 56, 3) := by decide +kernel
theorem dX10_sorts_72 : decode cX10_sorts 72 = .ok (.iload_n 2, 1) := by decide +kernel
theorem dX10_sorts_73 : decode cX10_sorts 73 = .ok (.iconst 1, 1) := by decide +kernel
theorem dX10_sorts_74 : decode cX10_sorts 74 = .ok (.isub, 1) := by decide +kernel
theorem dX10_sorts_75 : decode cX10_sorts 75 = .ok (.iaload, 1) := by decide +kernel
theorem dX10_sorts_76 : decode cX10_sorts 76 = .ok (.iastore, 1) := by decide +kernel
theorem dX10_sorts_77 : decode cX10_sorts 77 = .ok (.iinc 2 (-1), 3) := by decide +kernel
theorem dX10_sorts_80 : decode cX10_sorts 80 = .ok (.goto (-37), 3) := by decide +kernel
theorem dX10_sorts_83 : decode cX10_sorts 83 = .ok (.aload_n 0, 1) := by decide +kernel
theorem dX10_sorts_84 : decode cX10_sorts 84 = .ok (.getfield 56, 3) := by decide +kernel
theorem dX10_sorts_87 : decode cX10_sorts 87 = .ok (.iload_n 2, 1) := by decide +kernel
theorem dX10_sorts_88 : decode cX10_sorts 88 = .ok (.iload_n 1, 1) := by decide +kernel
theorem dX10_sorts_89 : decode cX10_sorts 89 = .ok (.iastore, 1) := by decide +kernel
theorem dX10_sorts_90 : decode cX10_sorts 90 = .ok (.aload_n 0, 1) := by decide +kernel
theorem dX10_sorts_91 : decode cX10_sorts 91 = .ok (.dup, 1) := by decide +kernel
theorem dX10_sorts_92 : decode cX10_sorts 92 = .ok (.getfield 318, 3) := by decide +kernel
theorem dX10_sorts_95 : decode cX10_sorts 95 = .ok (.iconst 1, 1) := by decide +kernel
theorem dX10_sorts_96 : decode cX10_sorts 96 = .ok (.iadd, 1) := by decide +kernel
theorem dX10_sorts_97 : decode cX10_sorts 97 = .ok (.putfield 318, 3) := by decide +kernel
theorem dX10_sorts_100 : decode cX10_sorts 100 = .ok (.iinc 1 1, 3) := by decide +kernel
theorem dX10_sorts_103 : decode cX10_sorts 103 = .ok (.goto (-96), 3) := by decide +kernel
theorem dX10_sorts_106 : decode cX10_sorts 106 = .ok (.return_, 1) := by decide +kernel
theorem dX10_isAhead_0 : decode cX10_isAhead 0 = .ok (.aload_n 0, 1) := by decide +kernel
theorem dX10_isAhead_1 : decode cX10_isAhead 1 = .ok (.iload_n 1, 1) := by decide +kernel
theorem dX10_isAhead_2 : decode cX10_isAhead 2 = .ok (.invokevirtual 293, 3) := by decide +kernel
theorem dX10_isAhead_5 : decode cX10_isAhead 5 = .ok (.aload_n 0, 1) := by decide +kernel
theorem dX10_isAhead_6 : decode cX10_isAhead 6 = .ok (.iload_n 2, 1) := by decide +kernel
theorem dX10_isAhead_7 : decode cX10_isAhead 7 = .ok (.invokevirtual 293, 3) := by decide +kernel
theorem dX10_isAhead_10 : decode cX10_isAhead 10 = .ok (.if_icmp .eq 24, 3) := by decide +kernel
theorem dX10_isAhead_13 : decode cX10_isAhead 13 = .ok (.aload_n 0, 1) := by decide +kernel
theorem dX10_isAhead_14 : decode cX10_isAhead 14 = .ok (.iload_n 1, 1) := by decide +kernel
theorem dX10_isAhead_15 : decode cX10_isAhead 15 = .ok (.invokevirtual 293, 3) := by decide +kernel
theorem dX10_isAhead_18 : decode cX10_isAhead 18 = .ok (.aload_n 0, 1) := by decide +kernel
theorem dX10_isAhead_19 : decode cX10_isAhead 19 = .ok (.iload_n 2, 1) := by decide +kernel
theorem dX10_isAhead_20 : decode cX10_isAhead 20 = .ok (.invokevirtual 293, 3) := by decide +kernel
theorem dX10_isAhead_23 : decode cX10_isAhead 23 = .ok (.if_icmp .ge 7, 3) := by decide +kernel
theorem dX10_isAhead_26 : decode cX10_isAhead 26 = .ok (.iconst 1, 1) := by decide +kernel
theorem dX10_isAhead_27 : decode cX10_isAhead 27 = .ok (.goto 27, 3) := by decide +kernel
theorem dX10_isAhead_30 : decode cX10_isAhead 30 = .ok (.iconst 0, 1) := by decide +kernel
theorem dX10_isAhead_31 : decode cX10_isAhead 31 = .ok (.goto 23, 3) := by decide +kernel
theorem dX10_isAhead_34 : decode cX10_isAhead 34 = .ok (.aload_n 0, 1) := by decide +kernel
theorem dX10_isAhead_35 : decode cX10_isAhead 35 = .ok (.iload_n 1, 1) := by decide +kernel
theorem dX10_isAhead_36 : decode cX10_isAhead 36 = .ok (.iconst 1, 1) := by decide +kernel
theorem dX10_isAhead_37 : decode cX10_isAhead 37 = .ok (.invokevirtual 285, 3) := by decide +kernel
theorem dX10_isAhead_40 : decode cX10_isAhead 40 = .ok (.aload_n 0, 1) := by decide +kernel
theorem dX10_isAhead_41 : decode cX10_isAhead 41 = .ok (.iload_n 2, 1) := by decide +kernel
theorem dX10_isAhead_42 : decode cX10_isAhead 42 = .ok (.iconst 1, 1) := by decide +kernel
theorem dX10_isAhead_43 : decode cX10_isAhead 43 = .ok (.invokevirtual 285, 3) := by decide +kernel
theorem dX10_isAhead_46 : decode cX10_isAhead 46 = .ok (.if_icmp .ge 7, 3) := by decide +kernel
theorem dX10_isAhead_49 : decode cX10_isAhead 49 = .ok (.iconst 1, 1) := by decide +kernel
theorem dX10_isAhead_50 : decode cX10_isAhead 50 = .ok (.goto 4, 3) := by decide +kernel
theorem dX10_isAhead_53 : decode cX10_isAhead 53 = .ok (.iconst 0, 1) := by decide +kernel
theorem dX10_isAhead_54 : decode cX10_isAhead 54 = .ok (.ireturn, 1) := by decide +kernel
theorem dX10_begin_0 : decode cX10_begin 0 = .ok (.iconst 0, 1) := by decide +kernel
theorem dX10_begin_1 : decode cX10_begin 1 = .ok (.istore_n 1, 1) := by decide +kernel
theorem dX10_begin_2 : decode cX10_begin 2 = .ok (.iload_n 1, 1) := by decide +kernel
theorem dX10_begin_3 : decode cX10_begin 3 = .ok (.iconst 4, 1) := by decide +kernel
theorem dX10_begin_4 : decode cX10_begin 4 = .ok (.if_icmp .ge 35, 3) := by decide +kernel
theorem dX10_begin_7 : decode cX10_begin 7 = .ok (.aload_n 0, 1) := by decide +kernel
theorem dX10_begin_8 : decode cX10_begin 8 = .ok (.getfield 59, 3) := by decide +kernel
theorem dX10_begin_11 : decode cX10_begin 11 = .ok (.iload_n 1, 1) := by decide +kernel
theorem dX10_begin_12 : decode cX10_begin 12 = .ok (.aload_n 0, 1) := by decide +kernel
theorem dX10_begin_13 : decode cX10_begin 13 = .ok (.getfield 40, 3) := by decide +kernel
theorem dX10_begin_16 : decode cX10_begin 16 = .ok (.aload_n 0, 1) := by decide +kernel
theorem dX10_begin_17 : decode cX10_begin 17 = .ok (.getfield 37, 3) := by decide +kernel
theorem dX10_begin_20 : decode cX10_begin 20 = .ok (.iconst 0, 1) := by decide +kernel
theorem dX10_begin_21 : decode cX10_begin 21 = .ok (.iaload, 1) := by decide +kernel
theorem dX10_begin_22 : decode cX10_begin 22 = .ok (.iconst 1, 1) := by decide +kernel
theorem dX10_begin_23 : decode cX10_begin 23 = .ok (.if_icmp .ne 7, 3) := by decide +kernel
theorem dX10_begin_26 : decode cX10_begin 26 = .ok (.iconst 0, 1) := by decide +kernel
theorem dX10_begin_27 : decode cX10_begin 27 = .ok (.goto 4, 3) := by decide +kernel
theorem dX10_begin_30 : decode cX10_begin 30 = .ok (.iload_n 1, 1) := by decide +kernel
theorem dX10_begin_31 : decode cX10_begin 31 = .ok (.iaload, 1) := by decide +kernel
theorem dX10_begin_32 : decode cX10_begin 32 = .ok (.iastore, 1) := by decide +kernel
theorem dX10_begin_33 : decode cX10_begin 33 = .ok (.iinc 1 1, 3) := by decide +kernel
theorem dX10_begin_36 : decode cX10_begin 36 = .ok (.goto (-34), 3) := by decide +kernel
theorem dX10_begin_39 : decode cX10_begin 39 = .ok (.iconst 0, 1) := by decide +kernel
theorem dX10_begin_40 : decode cX10_begin 40 = .ok (.istore_n 1, 1) := by decide +kernel
theorem dX10_begin_41 : decode cX10_begin 41 = .ok (.iload_n 1, 1) := by decide +kernel
theorem dX10_begin_42 : decode cX10_begin 42 = .ok (.bipush 36, 2) := by decide +kernel
theorem dX10_begin_44 : decode cX10_begin 44 = .ok (.if_icmp .ge 30, 3) := by decide +kernel
theorem dX10_begin_47 : decode cX10_begin 47 = .ok (.aload_n 0, 1) := by decide +kernel
theorem dX10_begin_48 : decode cX10_begin 48 = .ok (.getfield 62, 3) := by decide +kernel
theorem dX10_begin_51 : decode cX10_begin 51 = .ok (.iload_n 1, 1) := by decide +kernel
theorem dX10_begin_52 : decode cX10_begin 52 = .ok (.iconst 0, 1) := by decide +kernel
theorem dX10_begin_53 : decode cX10_begin 53 = .ok (.iastore, 1) := by decide +kernel
theorem dX10_begin_54 : decode cX10_begin 54 = .ok (.aload_n 0, 1) := by decide +kernel
theorem dX10_begin_55 : decode cX10_begin 55 = .ok (.getfield 65, 3) := by decide +kernel
theorem dX10_begin_58 : decode cX10_begin 58 = .ok (.iload_n 1, 1) := by decide +kernel
theorem dX10_begin_59 : decode cX10_begin 59 = .ok (.iconst 0, 1) := by decide +kernel
theorem dX10_begin_60 : decode cX10_begin 60 = .ok (.iastore, 1) := by decide +kernel
theorem dX10_begin_61 : decode cX10_begin 61 = .ok (.aload_n 0, 1) := by decide +kernel
theorem dX10_begin_62 : decode cX10_begin 62 = .ok (.getfield 68, 3) := by decide +kernel
theorem dX10_begin_65 : decode cX10_begin 65 = .ok (.iload_n 1, 1) := by decide +kernel
theorem dX10_begin_66 : decode cX10_begin 66 = .ok (.iconst 0, 1) := by decide +kernel
theorem dX10_begin_67 : decode cX10_begin 67 = .ok (.iastore, 1) := by decide +kernel
theorem dX10_begin_68 : decode cX10_begin 68 = .ok (.iinc 1 1, 3) := by decide +kernel
theorem dX10_begin_71 : decode cX10_begin 71 = .ok (.goto (-30), 3) := by decide +kernel
theorem dX10_begin_74 : decode cX10_begin 74 = .ok (.iconst 0, 1) := by decide +kernel
theorem dX10_begin_75 : decode cX10_begin 75 = .ok (.istore_n 1, 1) := by decide +kernel
theorem dX10_begin_76 : decode cX10_begin 76 = .ok (.iload_n 1, 1) := by decide +kernel
theorem dX10_begin_77 : decode cX10_begin 77 = .ok (.iconst 5, 1) := by decide +kernel
theorem dX10_begin_78 : decode cX10_begin 78 = .ok (.if_icmp .ge 16, 3) := by decide +kernel
theorem dX10_begin_81 : decode cX10_begin 81 = .ok (.aload_n 0, 1) := by decide +kernel
theorem dX10_begin_82 : decode cX10_begin 82 = .ok (.getfield 77, 3) := by decide +kernel
theorem dX10_begin_85 : decode cX10_begin 85 = .ok (.iload_n 1, 1) := by decide +kernel
theorem dX10_begin_86 : decode cX10_begin 86 = .ok (.iconst 0, 1) := by decide +kernel
theorem dX10_begin_87 : decode cX10_begin 87 = .ok (.iastore, 1) := by decide +kernel
theorem dX10_begin_88 : decode cX10_begin 88 = .ok (.iinc 1 1, 3) := by decide +kernel
theorem dX10_begin_91 : decode cX10_begin 91 = .ok (.goto (-15), 3) := by decide +kernel
theorem dX10_begin_94 : decode cX10_begin 94 = .ok (.aload_n 0, 1) := by decide +kernel
theorem dX10_begin_95 : decode cX10_begin 95 = .ok (.iconst 0, 1) := by decide +kernel
theorem dX10_begin_96 : decode cX10_begin 96 = .ok (.putfield 328, 3) := by decide +kernel
theorem dX10_begin_99 : decode cX10_begin 99 = .ok (.aload_n 0, 1) := by decide +kernel
theorem dX10_begin_100 : decode cX10_begin 100 = .ok (.iconst 0, 1) := by decide +kernel
theorem dX10_begin_101 : decode cX10_begin 101 = .ok (.putfield 331, 3) := by decide +kernel
theorem dX10_begin_104 : decode cX10_begin 104 = .ok (.return_, 1) := by decide +kernel
theorem dX10_dawns_0 : decode cX10_dawns 0 = .ok (.iload_n 1, 1) := by decide +kernel
theorem dX10_dawns_1 : decode cX10_dawns 1 = .ok (.aload_n 0, 1) := by decide +kernel
theorem dX10_dawns_2 : decode cX10_dawns 2 = .ok (.getfield 331, 3) := by decide +kernel
theorem dX10_dawns_5 : decode cX10_dawns 5 = .ok (.if_icmp .le 33, 3) := by decide +kernel
theorem dX10_dawns_8 : decode cX10_dawns 8 = .ok (.aload_n 0, 1) := by decide +kernel
theorem dX10_dawns_9 : decode cX10_dawns 9 = .ok (.getfield 37, 3) := by decide +kernel
theorem dX10_dawns_12 : decode cX10_dawns 12 = .ok (.iconst 1, 1) := by decide +kernel
theorem dX10_dawns_13 : decode cX10_dawns 13 = .ok (.iaload, 1) := by decide +kernel
theorem dX10_dawns_14 : decode cX10_dawns 14 = .ok (.iconst 1, 1) := by decide +kernel
theorem dX10_dawns_15 : decode cX10_dawns 15 = .ok (.if_icmp .ne 23, 3) := by decide +kernel
theorem dX10_dawns_18 : decode cX10_dawns 18 = .ok (.iconst 0, 1) := by decide +kernel
theorem dX10_dawns_19 : decode cX10_dawns 19 = .ok (.istore_n 2, 1) := by decide +kernel
theorem dX10_dawns_20 : decode cX10_dawns 20 = .ok (.iload_n 2, 1) := by decide +kernel
theorem dX10_dawns_21 : decode cX10_dawns 21 = .ok (.iconst 4, 1) := by decide +kernel
theorem dX10_dawns_22 : decode cX10_dawns 22 = .ok (.if_icmp .ge 16, 3) := by decide +kernel
theorem dX10_dawns_25 : decode cX10_dawns 25 = .ok (.aload_n 0, 1) := by decide +kernel
theorem dX10_dawns_26 : decode cX10_dawns 26 = .ok (.getfield 59, 3) := by decide +kernel
theorem dX10_dawns_29 : decode cX10_dawns 29 = .ok (.iload_n 2, 1) := by decide +kernel
theorem dX10_dawns_30 : decode cX10_dawns 30 = .ok (.iconst 0, 1) := by decide +kernel
theorem dX10_dawns_31 : decode cX10_dawns 31 = .ok (.iastore, 1) := by decide +kernel
theorem dX10_dawns_32 : decode cX10_dawns 32 = .ok (.iinc 2 1, 3) := by decide +kernel
theorem dX10_dawns_35 : decode cX10_dawns 35 = .ok (.goto (-15), 3) := by decide +kernel
theorem dX10_dawns_38 : decode cX10_dawns 38 = .ok (.aload_n 0, 1) := by decide +kernel
theorem dX10_dawns_39 : decode cX10_dawns 39 = .ok (.iload_n 1, 1) := by decide +kernel
theorem dX10_dawns_40 : decode cX10_dawns 40 = .ok (.putfield 331, 3) := by decide +kernel
theorem dX10_dawns_43 : decode cX10_dawns 43 = .ok (.return_, 1) := by decide +kernel
theorem dX10_counterOf_0 : decode cX10_counterOf 0 = .ok (.aload_n 0, 1) := by decide +kernel
theorem dX10_counterOf_1 : decode cX10_counterOf 1 = .ok (.getfield 37, 3) := by decide +kernel
theorem dX10_counterOf_4 : decode cX10_counterOf 4 = .ok (.iconst 0, 1) := by decide +kernel
theorem dX10_counterOf_5 : decode cX10_counterOf 5 = .ok (.iaload, 1) := by decide +kernel
theorem dX10_counterOf_6 : decode cX10_counterOf 6 = .ok (.iconst 1, 1) := by decide +kernel
theorem dX10_counterOf_7 : decode cX10_counterOf 7 = .ok (.if_icmp .ne 7, 3) := by decide +kernel
theorem dX10_counterOf_10 : decode cX10_counterOf 10 = .ok (.iconst 0, 1) := by decide +kernel
theorem dX10_counterOf_11 : decode cX10_counterOf 11 = .ok (.goto 4, 3) := by decide +kernel
theorem dX10_counterOf_14 : decode cX10_counterOf 14 = .ok (.iload_n 1, 1) := by decide +kernel
theorem dX10_counterOf_15 : decode cX10_counterOf 15 = .ok (.ireturn, 1) := by decide +kernel
theorem dX10_passes_0 : decode cX10_passes 0 = .ok (.aload_n 0, 1) := by decide +kernel
theorem dX10_passes_1 : decode cX10_passes 1 = .ok (.iload_n 1, 1) := by decide +kernel
theorem dX10_passes_2 : decode cX10_passes 2 = .ok (.iconst 1, 1) := by decide +kernel
theorem dX10_passes_3 : decode cX10_passes 3 = .ok (.invokevirtual 285, 3) := by decide +kernel
theorem dX10_passes_6 : decode cX10_passes 6 = .ok (.istore 4, 2) := by decide +kernel
theorem dX10_passes_8 : decode cX10_passes 8 = .ok (.iload_n 3, 1) := by decide +kernel
theorem dX10_passes_9 : decode cX10_passes 9 = .ok (.bipush 24, 2) := by decide +kernel
theorem dX10_passes_11 : decode cX10_passes 11 = .ok (.idiv, 1) := by decide +kernel
theorem dX10_passes_12 : decode cX10_passes 12 = .ok (.istore 5, 2) := by decide +kernel
theorem dX10_passes_14 : decode cX10_passes 14 = .ok (.aload_n 0, 1) := by decide +kernel
theorem dX10_passes_15 : decode cX10_passes 15 = .ok (.getfield 65, 3) := by decide +kernel
theorem dX10_passes_18 : decode cX10_passes 18 = .ok (.bipush 9, 2) := by decide +kernel
theorem dX10_passes_20 : decode cX10_passes 20 = .ok (.iload 4, 2) := by decide +kernel
theorem dX10_passes_22 : decode cX10_passes 22 = .ok (.imul, 1) := by decide +kernel
theorem dX10_passes_23 : decode cX10_passes 23 = .ok (.iload 5, 2) := by decide +kernel
theorem dX10_passes_25 : decode cX10_passes 25 = .ok (.iadd, 1) := by decide +kernel
theorem dX10_passes_26 : decode cX10_passes 26 = .ok (.dup2, 1) := by decide +kernel
theorem dX10_passes_27 : decode cX10_passes 27 = .ok (.iaload, 1) := by decide +kernel
theorem dX10_passes_28 : decode cX10_passes 28 = .ok (.iconst 1, 1) := by decide +kernel
theorem dX10_passes_29 : decode cX10_passes 29 = .ok (.iadd, 1) := by decide +kernel
theorem dX10_passes_30 : decode cX10_passes 30 = .ok (.iastore, 1) := by decide +kernel
theorem dX10_passes_31 : decode cX10_passes 31 = .ok (.iload_n 2, 1) := by decide +kernel
theorem dX10_passes_32 : decode cX10_passes 32 = .ok (.aload_n 0, 1) := by decide +kernel
theorem dX10_passes_33 : decode cX10_passes 33 = .ok (.iload_n 1, 1) := by decide +kernel
theorem dX10_passes_34 : decode cX10_passes 34 = .ok (.iconst 4, 1) := by decide +kernel
theorem dX10_passes_35 : decode cX10_passes 35 = .ok (.invokevirtual 285, 3) := by decide +kernel
theorem dX10_passes_38 : decode cX10_passes 38 = .ok (.if_icmp .lt 25, 3) := by decide +kernel
theorem dX10_passes_41 : decode cX10_passes 41 = .ok (.aload_n 0, 1) := by decide +kernel
theorem dX10_passes_42 : decode cX10_passes 42 = .ok (.getfield 37, 3) := by decide +kernel
theorem dX10_passes_45 : decode cX10_passes 45 = .ok (.iconst 2, 1) := by decide +kernel
theorem dX10_passes_46 : decode cX10_passes 46 = .ok (.iaload, 1) := by decide +kernel
theorem dX10_passes_47 : decode cX10_passes 47 = .ok (.iconst 1, 1) := by decide +kernel
theorem dX10_passes_48 : decode cX10_passes 48 = .ok (.if_icmp .eq 14, 3) := by decide +kernel
theorem dX10_passes_51 : decode cX10_passes 51 = .ok (.iload 5, 2) := by decide +kernel
theorem dX10_passes_53 : decode cX10_passes 53 = .ok (.aload_n 0, 1) := by decide +kernel
theorem dX10_passes_54 : decode cX10_passes 54 = .ok (.getfield 34, 3) := by decide +kernel
theorem dX10_passes_57 : decode cX10_passes 57 = .ok (.iconst 5, 1) := by decide +kernel
theorem dX10_passes_58 : decode cX10_passes 58 = .ok (.iaload, 1) := by decide +kernel
theorem dX10_passes_59 : decode cX10_passes 59 = .ok (.if_icmp .ge 4, 3) := by decide +kernel
theorem dX10_passes_62 : decode cX10_passes 62 = .ok (.return_, 1) := by decide +kernel
theorem dX10_passes_63 : decode cX10_passes 63 = .ok (.aload_n 0, 1) := by decide +kernel
theorem dX10_passes_64 : decode cX10_passes 64 = .ok (.getfield 62, 3) := by decide +kernel
theorem dX10_passes_67 : decode cX10_passes 67 = .ok (.bipush 9, 2) := by decide +kernel
theorem dX10_passes_69 : decode cX10_passes 69 = .ok (.iload 4, 2) := by decide +kernel
theorem dX10_passes_71 : decode cX10_passes 71 = .ok (.imul, 1) := by decide +kernel
theorem dX10_passes_72 : decode cX10_passes 72 = .ok (.iload 5, 2) := by decide +kernel
theorem dX10_passes_74 : decode cX10_passes 74 = .ok (.iadd, 1) := by decide +kernel
theorem dX10_passes_75 : decode cX10_passes 75 = .ok (.dup2, 1) := by decide +kernel
theorem dX10_passes_76 : decode cX10_passes 76 = .ok (.iaload, 1) := by decide +kernel
theorem dX10_passes_77 : decode cX10_passes 77 = .ok (.iconst 1, 1) := by decide +kernel
theorem dX10_passes_78 : decode cX10_passes 78 = .ok (.iadd, 1) := by decide +kernel
theorem dX10_passes_79 : decode cX10_passes 79 = .ok (.iastore, 1) := by decide +kernel
theorem dX10_passes_80 : decode cX10_passes 80 = .ok (.aload_n 0, 1) := by decide +kernel
theorem dX10_passes_81 : decode cX10_passes 81 = .ok (.getfield 43, 3) := by decide +kernel
theorem dX10_passes_84 : decode cX10_passes 84 = .ok (.bipush 9, 2) := by decide +kernel
theorem dX10_passes_86 : decode cX10_passes 86 = .ok (.iload 4, 2) := by decide +kernel
theorem dX10_passes_88 : decode cX10_passes 88 = .ok (.imul, 1) := by decide +kernel
theorem dX10_passes_89 : decode cX10_passes 89 = .ok (.iload 5, 2) := by decide +kernel
theorem dX10_passes_91 : decode cX10_passes 91 = .ok (.iadd, 1) := by decide +kernel
theorem dX10_passes_92 : decode cX10_passes 92 = .ok (.iaload, 1) := by decide +kernel
theorem dX10_passes_93 : decode cX10_passes 93 = .ok (.ifCond .le 34, 3) := by decide +kernel
theorem dX10_passes_96 : decode cX10_passes 96 = .ok (.aload_n 0, 1) := by decide +kernel
theorem dX10_passes_97 : decode cX10_passes 97 = .ok (.getfield 62, 3) := by decide +kernel
theorem dX10_passes_100 : decode cX10_passes 100 = .ok (.bipush 9, 2) := by decide +kernel
theorem dX10_passes_102 : decode cX10_passes 102 = .ok (.iload 4, 2) := by decide +kernel
theorem dX10_passes_104 : decode cX10_passes 104 = .ok (.imul, 1) := by decide +kernel
theorem dX10_passes_105 : decode cX10_passes 105 = .ok (.iload 5, 2) := by decide +kernel
theorem dX10_passes_107 : decode cX10_passes 107 = .ok (.iadd, 1) := by decide +kernel
theorem dX10_passes_108 : decode cX10_passes 108 = .ok (.iaload, 1) := by decide +kernel
theorem dX10_passes_109 : decode cX10_passes 109 = .ok (.aload_n 0, 1) := by decide +kernel
theorem dX10_passes_110 : decode cX10_passes 110 = .ok (.getfield 43, 3) := by decide +kernel
theorem dX10_passes_113 : decode cX10_passes 113 = .ok (.bipush 9, 2) := by decide +kernel
theorem dX10_passes_115 : decode cX10_passes 115 = .ok (.iload 4, 2) := by decide +kernel
theorem dX10_passes_117 : decode cX10_passes 117 = .ok (.imul, 1) := by decide +kernel
theorem dX10_passes_118 : decode cX10_passes 118 = .ok (.iload 5, 2) := by decide +kernel
theorem dX10_passes_120 : decode cX10_passes 120 = .ok (.iadd, 1) := by decide +kernel
theorem dX10_passes_121 : decode cX10_passes 121 = .ok (.iaload, 1) := by decide +kernel
theorem dX10_passes_122 : decode cX10_passes 122 = .ok (.irem, 1) := by decide +kernel
theorem dX10_passes_123 : decode cX10_passes 123 = .ok (.ifCond .ne 4, 3) := by decide +kernel
theorem dX10_passes_126 : decode cX10_passes 126 = .ok (.return_, 1) := by decide +kernel
theorem dX10_passes_127 : decode cX10_passes 127 = .ok (.aload_n 0, 1) := by decide +kernel
theorem dX10_passes_128 : decode cX10_passes 128 = .ok (.getfield 68, 3) := by decide +kernel
theorem dX10_passes_131 : decode cX10_passes 131 = .ok (.bipush 9, 2) := by decide +kernel
theorem dX10_passes_133 : decode cX10_passes 133 = .ok (.iload 4, 2) := by decide +kernel
theorem dX10_passes_135 : decode cX10_passes 135 = .ok (.imul, 1) := by decide +kernel
theorem dX10_passes_136 : decode cX10_passes 136 = .ok (.iload 5, 2) := by decide +kernel
theorem dX10_passes_138 : decode cX10_passes 138 = .ok (.iadd, 1) := by decide +kernel
theorem dX10_passes_139 : decode cX10_passes 139 = .ok (.dup2, 1) := by decide +kernel
theorem dX10_passes_140 : decode cX10_passes 140 = .ok (.iaload, 1) := by decide +kernel
theorem dX10_passes_141 : decode cX10_passes 141 = .ok (.iconst 1, 1) := by decide +kernel
theorem dX10_passes_142 : decode cX10_passes 142 = .ok (.iadd, 1) := by decide +kernel
theorem dX10_passes_143 : decode cX10_passes 143 = .ok (.iastore, 1) := by decide +kernel
theorem dX10_passes_144 : decode cX10_passes 144 = .ok (.aload_n 0, 1) := by decide +kernel
theorem dX10_passes_145 : decode cX10_passes 145 = .ok (.iload 4, 2) := by decide +kernel
theorem dX10_passes_147 : decode cX10_passes 147 = .ok (.invokevirtual 334, 3) := by decide +kernel
theorem dX10_passes_150 : decode cX10_passes 150 = .ok (.istore 6, 2) := by decide +kernel
theorem dX10_passes_152 : decode cX10_passes 152 = .ok (.aload_n 0, 1) := by decide +kernel
theorem dX10_passes_153 : decode cX10_passes 153 = .ok (.getfield 59, 3) := by decide +kernel
theorem dX10_passes_156 : decode cX10_passes 156 = .ok (.iload 6, 2) := by decide +kernel
theorem dX10_passes_158 : decode cX10_passes 158 = .ok (.dup2, 1) := by decide +kernel
theorem dX10_passes_159 : decode cX10_passes 159 = .ok (.iaload, 1) := by decide +kernel
theorem dX10_passes_160 : decode cX10_passes 160 = .ok (.iconst 1, 1) := by decide +kernel
theorem dX10_passes_161 : decode cX10_passes 161 = .ok (.iadd, 1) := by decide +kernel
theorem dX10_passes_162 : decode cX10_passes 162 = .ok (.iastore, 1) := by decide +kernel
theorem dX10_passes_163 : decode cX10_passes 163 = .ok (.aload_n 0, 1) := by decide +kernel
theorem dX10_passes_164 : decode cX10_passes 164 = .ok (.getfield 59, 3) := by decide +kernel
theorem dX10_passes_167 : decode cX10_passes 167 = .ok (.iload 6, 2) := by decide +kernel
theorem dX10_passes_169 : decode cX10_passes 169 = .ok (.iaload, 1) := by decide +kernel
theorem dX10_passes_170 : decode cX10_passes 170 = .ok (.aload_n 0, 1) := by decide +kernel
theorem dX10_passes_171 : decode cX10_passes 171 = .ok (.getfield 37, 3) := by decide +kernel
theorem dX10_passes_174 : decode cX10_passes 174 = .ok (.iconst 3, 1) := by decide +kernel
theorem dX10_passes_175 : decode cX10_passes 175 = .ok (.iaload, 1) := by decide +kernel
theorem dX10_passes_176 : decode cX10_passes 176 = .ok (.if_icmp .ge 4, 3) := by decide +kernel
theorem dX10_passes_179 : decode cX10_passes 179 = .ok (.return_, 1) := by decide +kernel
theorem dX10_passes_180 : decode cX10_passes 180 = .ok (.aload_n 0, 1) := by decide +kernel
theorem dX10_passes_181 : decode cX10_passes 181 = .ok (.getfield 59, 3) := by decide +kernel
theorem dX10_passes_184 : decode cX10_passes 184 = .ok (.iload 6, 2) := by decide +kernel
theorem dX10_passes_186 : decode cX10_passes 186 = .ok (.iconst 0, 1) := by decide +kernel
theorem dX10_passes_187 : decode cX10_passes 187 = .ok (.iastore, 1) := by decide +kernel
theorem dX10_passes_188 : decode cX10_passes 188 = .ok (.aload_n 0, 1) := by decide +kernel
theorem dX10_passes_189 : decode cX10_passes 189 = .ok (.getfield 74, 3) := by decide +kernel
theorem dX10_passes_192 : decode cX10_passes 192 = .ok (.iconst 4, 1) := by decide +kernel
theorem dX10_passes_193 : decode cX10_passes 193 = .ok (.aload_n 0, 1) := by decide +kernel
theorem dX10_passes_194 : decode cX10_passes 194 = .ok (.getfield 328, 3) := by decide +kernel
theorem dX10_passes_197 : decode cX10_passes 197 = .ok (.imul, 1) := by decide +kernel
theorem dX10_passes_198 : decode cX10_passes 198 = .ok (.iload_n 3, 1) := by decide +kernel
theorem dX10_passes_199 : decode cX10_passes 199 = .ok (.iastore, 1) := by decide +kernel
theorem dX10_passes_200 : decode cX10_passes 200 = .ok (.aload_n 0, 1) := by decide +kernel
theorem dX10_passes_201 : decode cX10_passes 201 = .ok (.getfield 74, 3) := by decide +kernel
theorem dX10_passes_204 : decode cX10_passes 204 = .ok (.iconst 4, 1) := by decide +kernel
theorem dX10_passes_205 : decode cX10_passes 205 = .ok (.aload_n 0, 1) := by decide +kernel
theorem dX10_passes_206 : decode cX10_passes 206 = .ok (.getfield 328, 3) := by decide +kernel
theorem dX10_passes_209 : decode cX10_passes 209 = .ok (.imul, 1) := by decide +kernel
theorem dX10_passes_210 : decode cX10_passes 210 = .ok (.iconst 1, 1) := by decide +kernel
theorem dX10_passes_211 : decode cX10_passes 211 = .ok (.iadd, 1) := by decide +kernel
theorem dX10_passes_212 : decode cX10_passes 212 = .ok (.iload 4, 2) := by decide +kernel
theorem dX10_passes_214 : decode cX10_passes 214 = .ok (.iastore, 1) := by decide +kernel
theorem dX10_passes_215 : decode cX10_passes 215 = .ok (.aload_n 0, 1) := by decide +kernel
theorem dX10_passes_216 : decode cX10_passes 216 = .ok (.getfield 74, 3) := by decide +kernel
theorem dX10_passes_219 : decode cX10_passes 219 = .ok (.iconst 4, 1) := by decide +kernel
theorem dX10_passes_220 : decode cX10_passes 220 = .ok (.aload_n 0, 1) := by decide +kernel
theorem dX10_passes_221 : decode cX10_passes 221 = .ok (.getfield 328, 3) := by decide +kernel
theorem dX10_passes_224 : decode cX10_passes 224 = .ok (.imul, 1) := by decide +kernel
theorem dX10_passes_225 : decode cX10_passes 225 = .ok (.iconst 2, 1) := by decide +kernel
theorem dX10_passes_226 : decode cX10_passes 226 = .ok (.iadd, 1) := by decide +kernel
theorem dX10_passes_227 : decode cX10_passes 227 = .ok (.iload_n 1, 1) := by decide +kernel
theorem dX10_passes_228 : decode cX10_passes 228 = .ok (.iastore, 1) := by decide +kernel
theorem dX10_passes_229 : decode cX10_passes 229 = .ok (.aload_n 0, 1) := by decide +kernel
theorem dX10_passes_230 : decode cX10_passes 230 = .ok (.getfield 74, 3) := by decide +kernel
theorem dX10_passes_233 : decode cX10_passes 233 = .ok (.iconst 4, 1) := by decide +kernel
theorem dX10_passes_234 : decode cX10_passes 234 = .ok (.aload_n 0, 1) := by decide +kernel
theorem dX10_passes_235 : decode cX10_passes 235 = .ok (.getfield 328, 3) := by decide +kernel
theorem dX10_passes_238 : decode cX10_passes 238 = .ok (.imul, 1) := by decide +kernel
theorem dX10_passes_239 : decode cX10_passes 239 = .ok (.iconst 3, 1) := by decide +kernel
theorem dX10_passes_240 : decode cX10_passes 240 = .ok (.iadd, 1) := by decide +kernel
theorem dX10_passes_241 : decode cX10_passes 241 = .ok (.iload_n 2, 1) := by decide +kernel
theorem dX10_passes_242 : decode cX10_passes 242 = .ok (.iastore, 1) := by decide +kernel
theorem dX10_passes_243 : decode cX10_passes 243 = .ok (.aload_n 0, 1) := by decide +kernel
theorem dX10_passes_244 : decode cX10_passes 244 = .ok (.dup, 1) := by decide +kernel
theorem dX10_passes_245 : decode cX10_passes 245 = .ok (.getfield 328, 3) := by decide +kernel
theorem dX10_passes_248 : decode cX10_passes 248 = .ok (.iconst 1, 1) := by decide +kernel
theorem dX10_passes_249 : decode cX10_passes 249 = .ok (.iadd, 1) := by decide +kernel
theorem dX10_passes_250 : decode cX10_passes 250 = .ok (.putfield 328, 3) := by decide +kernel
theorem dX10_passes_253 : decode cX10_passes 253 = .ok (.aload_n 0, 1) := by decide +kernel
theorem dX10_passes_254 : decode cX10_passes 254 = .ok (.getfield 77, 3) := by decide +kernel
theorem dX10_passes_257 : decode cX10_passes 257 = .ok (.aload_n 0, 1) := by decide +kernel
theorem dX10_passes_258 : decode cX10_passes 258 = .ok (.iload_n 1, 1) := by decide +kernel
theorem dX10_passes_259 : decode cX10_passes 259 = .ok (.bipush 6, 2) := by decide +kernel
theorem dX10_passes_261 : decode cX10_passes 261 = .ok (.invokevirtual 285, 3) := by decide +kernel
theorem dX10_passes_264 : decode cX10_passes 264 = .ok (.dup2, 1) := by decide +kernel
theorem dX10_passes_265 : decode cX10_passes 265 = .ok (.iaload, 1) := by decide +kernel
theorem dX10_passes_266 : decode cX10_passes 266 = .ok (.iconst 1, 1) := by decide +kernel
theorem dX10_passes_267 : decode cX10_passes 267 = .ok (.iadd, 1) := by decide +kernel
theorem dX10_passes_268 : decode cX10_passes 268 = .ok (.iastore, 1) := by decide +kernel
theorem dX10_passes_269 : decode cX10_passes 269 = .ok (.return_, 1) := by decide +kernel
theorem dX10_drawn_0 : decode cX10_drawn 0 = .ok (.aload_n 0, 1) := by decide +kernel
theorem dX10_drawn_1 : decode cX10_drawn 1 = .ok (.ldc2_w 337, 3) := by decide +kernel
theorem dX10_drawn_4 : decode cX10_drawn 4 = .ok (.aload_n 0, 1) := by decide +kernel
theorem dX10_drawn_5 : decode cX10_drawn 5 = .ok (.getfield 339, 3) := by decide +kernel
theorem dX10_drawn_8 : decode cX10_drawn 8 = .ok (.lmul, 1) := by decide +kernel
theorem dX10_drawn_9 : decode cX10_drawn 9 = .ok (.ldc2_w 342, 3) := by decide +kernel
theorem dX10_drawn_12 : decode cX10_drawn 12 = .ok (.ladd, 1) := by decide +kernel
theorem dX10_drawn_13 : decode cX10_drawn 13 = .ok (.ldc2_w 344, 3) := by decide +kernel
theorem dX10_drawn_16 : decode cX10_drawn 16 = .ok (.lrem, 1) := by decide +kernel
theorem dX10_drawn_17 : decode cX10_drawn 17 = .ok (.putfield 339, 3) := by decide +kernel
theorem dX10_drawn_20 : decode cX10_drawn 20 = .ok (.aload_n 0, 1) := by decide +kernel
theorem dX10_drawn_21 : decode cX10_drawn 21 = .ok (.getfield 339, 3) := by decide +kernel
theorem dX10_drawn_24 : decode cX10_drawn 24 = .ok (.ldc2_w 346, 3) := by decide +kernel
theorem dX10_drawn_27 : decode cX10_drawn 27 = .ok (.ldiv, 1) := by decide +kernel
theorem dX10_drawn_28 : decode cX10_drawn 28 = .ok (.iload_n 1, 1) := by decide +kernel
theorem dX10_drawn_29 : decode cX10_drawn 29 = .ok (.i2l, 1) := by decide +kernel
theorem dX10_drawn_30 : decode cX10_drawn 30 = .ok (.lrem, 1) := by decide +kernel
theorem dX10_drawn_31 : decode cX10_drawn 31 = .ok (.l2i, 1) := by decide +kernel
theorem dX10_drawn_32 : decode cX10_drawn 32 = .ok (.ireturn, 1) := by decide +kernel
theorem dX10_goes__0 : decode cX10_goes_ 0 = .ok (.aload_n 0, 1) := by decide +kernel
theorem dX10_goes__1 : decode cX10_goes_ 1 = .ok (.invokevirtual 348, 3) := by decide +kernel
theorem dX10_goes__4 : decode cX10_goes_ 4 = .ok (.aload_n 0, 1) := by decide +kernel
theorem dX10_goes__5 : decode cX10_goes_ 5 = .ok (.invokevirtual 351, 3) := by decide +kernel
theorem dX10_goes__8 : decode cX10_goes_ 8 = .ok (.iconst 0, 1) := by decide +kernel
theorem dX10_goes__9 : decode cX10_goes_ 9 = .ok (.istore_n 1, 1) := by decide +kernel
theorem dX10_goes__10 : decode cX10_goes_ 10 = .ok (.iload_n 1, 1) := by decide +kernel
theorem dX10_goes__11 : decode cX10_goes_ 11 = .ok (.aload_n 0, 1) := by decide +kernel
theorem dX10_goes__12 : decode cX10_goes_ 12 = .ok (.getfield 318, 3) := by decide +kernel
theorem dX10_goes__15 : decode cX10_goes_ 15 = .ok (.if_icmp .ge 220, 3) := by decide +kernel
theorem dX10_goes__18 : decode cX10_goes_ 18 = .ok (.aload_n 0, 1) := by decide +kernel
theorem dX10_goes__19 : decode cX10_goes_ 19 = .ok (.aload_n 0, 1) := by decide +kernel
theorem dX10_goes__20 : decode cX10_goes_ 20 = .ok (.getfield 56, 3) := by decide +kernel
theorem dX10_goes__23 : decode cX10_goes_ 23 = .ok (.iload_n 1, 1) := by decide +kernel
theorem dX10_goes__24 : decode cX10_goes_ 24 = .ok (.iaload, 1) := by decide +kernel
theorem dX10_goes__25 : decode cX10_goes_ 25 = .ok (.invokevirtual 293, 3) := by decide +kernel
theorem dX10_goes__28 : decode cX10_goes_ 28 = .ok (.aload_n 0, 1) := by decide +kernel
theorem dX10_goes__29 : decode cX10_goes_ 29 = .ok (.getfield 354, 3) := by decide +kernel
theorem dX10_goes__32 : decode cX10_goes_ 32 = .ok (.if_icmp .gt 203, 3) := by decide +kernel
theorem dX10_goes__35 : decode cX10_goes_ 35 = .ok (.aload_n 0, 1) := by decide +kernel
theorem dX10_goes__36 : decode cX10_goes_ 36 = .ok (.aload_n 0, 1) := by decide +kernel
theorem dX10_goes__37 : decode cX10_goes_ 37 = .ok (.getfield 56, 3) := by decide +kernel
theorem dX10_goes__40 : decode cX10_goes_ 40 = .ok (.iload_n 1, 1) := by decide +kernel
theorem dX10_goes__41 : decode cX10_goes_ 41 = .ok (.iaload, 1) := by decide +kernel
theorem dX10_goes__42 : decode cX10_goes_ 42 = .ok (.invokevirtual 293, 3) := by decide +kernel
theorem dX10_goes__45 : decode cX10_goes_ 45 = .ok (.istore_n 2, 1) := by decide +kernel
theorem dX10_goes__46 : decode cX10_goes_ 46 = .ok (.aload_n 0, 1) := by decide +kernel
theorem dX10_goes__47 : decode cX10_goes_ 47 = .ok (.aload_n 0, 1) := by decide +kernel
theorem dX10_goes__48 : decode cX10_goes_ 48 = .ok (.getfield 56, 3) := by decide +kernel
theorem dX10_goes__51 : decode cX10_goes_ 51 = .ok (.iload_n 1, 1) := by decide +kernel
theorem dX10_goes__52 : decode cX10_goes_ 52 = .ok (.iaload, 1) := by decide +kernel
theorem dX10_goes__53 : decode cX10_goes_ 53 = .ok (.iconst 1, 1) := by decide +kernel
theorem dX10_goes__54 : decode cX10_goes_ 54 = .ok (.invokevirtual 285, 3) := by decide +kernel
theorem dX10_goes__57 : decode cX10_goes_ 57 = .ok (.istore_n 3, 1) := by decide +kernel
theorem dX10_goes__58 : decode cX10_goes_ 58 = .ok (.iconst 0, 1) := by decide +kernel
theorem dX10_goes__59 : decode cX10_goes_ 59 = .ok (.istore 4, 2) := by decide +kernel
theorem dX10_goes__61 : decode cX10_goes_ 61 = .ok (.iload_n 1, 1) := by decide +kernel
theorem dX10_goes__62 : decode cX10_goes_ 62 = .ok (.aload_n 0, 1) := by decide +kernel
theorem dX10_goes__63 : decode cX10_goes_ 63 = .ok (.getfield 318, 3) := by decide +kernel
theorem dX10_goes__66 : decode cX10_goes_ 66 = .ok (.if_icmp .ge 102, 3) := by decide +kernel
theorem dX10_goes__69 : decode cX10_goes_ 69 = .ok (.aload_n 0, 1) := by decide +kernel
theorem dX10_goes__70 : decode cX10_goes_ 70 = .ok (.aload_n 0, 1) := by decide +kernel
theorem dX10_goes__71 : decode cX10_goes_ 71 = .ok (.getfield 56, 3) := by decide +kernel
theorem dX10_goes__74 : decode cX10_goes_ 74 = .ok (.iload_n 1, 1) := by decide +kernel
theorem dX10_goes__75 : decode cX10_goes_ 75 = .ok (.iaload, 1) := by decide +kernel
theorem dX10_goes__76 : decode cX10_goes_ 76 = .ok (.invokevirtual 293, 3) := by decide +kernel
theorem dX10_goes__79 : decode cX10_goes_ 79 = .ok (.iload_n 2, 1) := by decide +kernel
theorem dX10_goes__80 : decode cX10_goes_ 80 = .ok (.if_icmp .ne 88, 3) := by decide +kernel
theorem dX10_goes__83 : decode cX10_goes_ 83 = .ok (.aload_n 0, 1) := by decide +kernel
theorem dX10_goes__84 : decode cX10_goes_ 84 = .ok (.aload_n 0, 1) := by decide +kernel
theorem dX10_goes__85 : decode cX10_goes_ 85 = .ok (.getfield 56, 3) := by decide +kernel
theorem dX10_goes__88 : decode cX10_goes_ 88 = .ok (.iload_n 1, 1) := by decide +kernel
theorem dX10_goes__89 : decode cX10_goes_ 89 = .ok (.iaload, 1) := by decide +kernel
theorem dX10_goes__90 : decode cX10_goes_ 90 = .ok (.iconst 1, 1) := by decide +kernel
theorem dX10_goes__91 : decode cX10_goes_ 91 = .ok (.invokevirtual 285, 3) := by decide +kernel
theorem dX10_goes__94 : decode cX10_goes_ 94 = .ok (.iload_n 3, 1) := by decide +kernel
theorem dX10_goes__95 : decode cX10_goes_ 95 = .ok (.if_icmp .ne 73, 3) := by decide +kernel
theorem dX10_goes__98 : decode cX10_goes_ 98 = .ok (.aload_n 0, 1) := by decide +kernel
theorem dX10_goes__99 : decode cX10_goes_ 99 = .ok (.aload_n 0, 1) := by decide +kernel
theorem dX10_goes__100 : decode cX10_goes_ 100 = .ok (.getfield 56, 3) := by decide +kernel
theorem dX10_goes__103 : decode cX10_goes_ 103 = .ok (.iload_n 1, 1) := by decide +kernel
theorem dX10_goes__104 : decode cX10_goes_ 104 = .ok (.iaload, 1) := by decide +kernel
theorem dX10_goes__105 : decode cX10_goes_ 105 = .ok (.iconst 4, 1) := by decide +kernel
theorem dX10_goes__106 : decode cX10_goes_ 106 = .ok (.invokevirtual 285, 3) := by decide +kernel
theorem dX10_goes__109 : decode cX10_goes_ 109 = .ok (.aload_n 0, 1) := by decide +kernel
theorem dX10_goes__110 : decode cX10_goes_ 110 = .ok (.aload_n 0, 1) := by decide +kernel
theorem dX10_goes__111 : decode cX10_goes_ 111 = .ok (.getfield 56, 3) := by decide +kernel
theorem dX10_goes__114 : decode cX10_goes_ 114 = .ok (.iload_n 1, 1) := by decide +kernel
theorem dX10_goes__115 : decode cX10_goes_ 115 = .ok (.iaload, 1) := by decide +kernel
theorem dX10_goes__116 : decode cX10_goes_ 116 = .ok (.iconst 5, 1) := by decide +kernel
theorem dX10_goes__117 : decode cX10_goes_ 117 = .ok (.invokevirtual 285, 3) := by decide +kernel
theorem dX10_goes__120 : decode cX10_goes_ 120 = .ok (.iadd, 1) := by decide +kernel
theorem dX10_goes__121 : decode cX10_goes_ 121 = .ok (.istore 5, 2) := by decide +kernel
theorem dX10_goes__123 : decode cX10_goes_ 123 = .ok (.iconst 0, 1) := by decide +kernel
theorem dX10_goes__124 : decode cX10_goes_ 124 = .ok (.istore 6, 2) := by decide +kernel
theorem dX10_goes__126 : decode cX10_goes_ 126 = .ok (.iload 6, 2) := by decide +kernel
theorem dX10_goes__128 : decode cX10_goes_ 128 = .ok (.iload 5, 2) := by decide +kernel
theorem dX10_goes__130 : decode cX10_goes_ 130 = .ok (.if_icmp .ge 32, 3) := by decide +kernel
theorem dX10_goes__133 : decode cX10_goes_ 133 = .ok (.aload_n 0, 1) := by decide +kernel
theorem dX10_goes__134 : decode cX10_goes_ 134 = .ok (.getfield 71, 3) := by decide +kernel
theorem dX10_goes__137 : decode cX10_goes_ 137 = .ok (.iload 4, 2) := by decide +kernel
theorem dX10_goes__139 : decode cX10_goes_ 139 = .ok (.sipush 200, 3) := by decide +kernel
theorem dX10_goes__142 : decode cX10_goes_ 142 = .ok (.aload_n 0, 1) := by decide +kernel
theorem dX10_goes__143 : decode cX10_goes_ 143 = .ok (.getfield 56, 3) := by decide +kernel
theorem dX10_goes__146 : decode cX10_goes_ 146 = .ok (.iload_n 1, 1) := by decide +kernel
theorem dX10_goes__147 : decode cX10_goes_ 147 = .ok (.iaload, 1) := by decide +kernel
theorem dX10_goes__148 : decode cX10_goes_ 148 = .ok (.imul, 1) := by decide +kernel
theorem dX10_goes__149 : decode cX10_goes_ 149 = .ok (.iload 6, 2) := by decide +kernel
theorem dX10_goes__151 : decode cX10_goes_ 151 = .ok (.iadd, 1) := by decide +kernel
theorem dX10_goes__152 : decode cX10_goes_ 152 = .ok (.iastore, 1) := by decide +kernel
theorem dX10_goes__153 : decode cX10_goes_ 153 = .ok (.iinc 4 1, 3) := by decide +kernel
theorem dX10_goes__156 : decode cX10_goes_ 156 = .ok (.iinc 6 1, 3) := by decide +kernel
theorem dX10_goes__159 : decode cX10_goes_ 159 = .ok (.goto (-33), 3) := by decide +kernel
theorem dX10_goes__162 : decode cX10_goes_ 162 = .ok (.iinc 1 1, 3) := by decide +kernel
theorem dX10_goes__165 : decode cX10_goes_ 165 = .ok (.goto (-104), 3) := by decide +kernel
theorem dX10_goes__168 : decode cX10_goes_ 168 = .ok (.aload_n 0, 1) := by decide +kernel
theorem dX10_goes__169 : decode cX10_goes_ 169 = .ok (.getfield 357, 3) := by decide +kernel
theorem dX10_goes__172 : decode cX10_goes_ 172 = .ok (.ifCond .eq 9, 3) := by decide +kernel
theorem dX10_goes__175 : decode cX10_goes_ 175 = .ok (.aload_n 0, 1) := by decide +kernel
theorem dX10_goes__176 : decode cX10_goes_ 176 = .ok (.iload 4, 2) := by decide +kernel
theorem dX10_goes__178 : decode cX10_goes_ 178 = .ok (.invokevirtual 360, 3) := by decide +kernel
theorem dX10_goes__181 : decode cX10_goes_ 181 = .ok (.aload_n 0, 1) := by decide +kernel
theorem dX10_goes__182 : decode cX10_goes_ 182 = .ok (.iload_n 2, 1) := by decide +kernel
theorem dX10_goes__183 : decode cX10_goes_ 183 = .ok (.bipush 24, 2) := by decide +kernel
theorem dX10_goes__185 : decode cX10_goes_ 185 = .ok (.idiv, 1) := by decide +kernel
theorem dX10_goes__186 : decode cX10_goes_ 186 = .ok (.invokevirtual 363, 3) := by decide +kernel
theorem dX10_goes__189 : decode cX10_goes_ 189 = .ok (.iconst 0, 1) := by decide +kernel
theorem dX10_goes__190 : decode cX10_goes_ 190 = .ok (.istore 5, 2) := by decide +kernel
theorem dX10_goes__192 : decode cX10_goes_ 192 = .ok (.iload 5, 2) := by decide +kernel
theorem dX10_goes__194 : decode cX10_goes_ 194 = .ok (.iload 4, 2) := by decide +kernel
theorem dX10_goes__196 : decode cX10_goes_ 196 = .ok (.if_icmp .ge 36, 3) := by decide +kernel
theorem dX10_goes__199 : decode cX10_goes_ 199 = .ok (.aload_n 0, 1) := by decide +kernel
theorem dX10_goes__200 : decode cX10_goes_ 200 = .ok (.aload_n 0, 1) := by decide +kernel
theorem dX10_goes__201 : decode cX10_goes_ 201 = .ok (.getfield 71, 3) := by decide +kernel
theorem dX10_goes__204 : decode cX10_goes_ 204 = .ok (.iload 5, 2) := by decide +kernel
theorem dX10_goes__206 : decode cX10_goes_ 206 = .ok (.iaload, 1) := by decide +kernel
theorem dX10_goes__207 : decode cX10_goes_ 207 = .ok (.sipush 200, 3) := by decide +kernel
theorem dX10_goes__210 : decode cX10_goes_ 210 = .ok (.idiv, 1) := by decide +kernel
theorem dX10_goes__211 : decode cX10_goes_ 211 = .ok (.aload_n 0, 1) := by decide +kernel
theorem dX10_goes__212 : decode cX10_goes_ 212 = .ok (.getfield 71, 3) := by decide +kernel
theorem dX10_goes__215 : decode cX10_goes_ 215 = .ok (.iload 5, 2) := by decide +kernel
theorem dX10_goes__217 : decode cX10_goes_ 217 = .ok (.iaload, 1) := by decide +kernel
theorem dX10_goes__218 : decode cX10_goes_ 218 = .ok (.sipush 200, 3) := by decide +kernel
theorem dX10_goes__221 : decode cX10_goes_ 221 = .ok (.irem, 1) := by decide +kernel
theorem dX10_goes__222 : decode cX10_goes_ 222 = .ok (.iload_n 2, 1) := by decide +kernel
theorem dX10_goes__223 : decode cX10_goes_ 223 = .ok (.invokevirtual 366, 3) := by decide +kernel
theorem dX10_goes__226 : decode cX10_goes_ 226 = .ok (.iinc 5 1, 3) := by decide +kernel
theorem dX10_goes__229 : decode cX10_goes_ 229 = .ok (.goto (-37), 3) := by decide +kernel
theorem dX10_goes__232 : decode cX10_goes_ 232 = .ok (.goto (-222), 3) := by decide +kernel
theorem dX10_goes__235 : decode cX10_goes_ 235 = .ok (.return_, 1) := by decide +kernel
theorem dX10_mixes_0 : decode cX10_mixes 0 = .ok (.iload_n 1, 1) := by decide +kernel
theorem dX10_mixes_1 : decode cX10_mixes 1 = .ok (.iconst 1, 1) := by decide +kernel
theorem dX10_mixes_2 : decode cX10_mixes 2 = .ok (.isub, 1) := by decide +kernel
theorem dX10_mixes_3 : decode cX10_mixes 3 = .ok (.istore_n 2, 1) := by decide +kernel
theorem dX10_mixes_4 : decode cX10_mixes 4 = .ok (.iload_n 2, 1) := by decide +kernel
theorem dX10_mixes_5 : decode cX10_mixes 5 = .ok (.ifCond .le 45, 3) := by decide +kernel
theorem dX10_mixes_8 : decode cX10_mixes 8 = .ok (.aload_n 0, 1) := by decide +kernel
theorem dX10_mixes_9 : decode cX10_mixes 9 = .ok (.iload_n 2, 1) := by decide +kernel
theorem dX10_mixes_10 : decode cX10_mixes 10 = .ok (.iconst 1, 1) := by decide +kernel
theorem dX10_mixes_11 : decode cX10_mixes 11 = .ok (.iadd, 1) := by decide +kernel
theorem dX10_mixes_12 : decode cX10_mixes 12 = .ok (.invokevirtual 369, 3) := by decide +kernel
theorem dX10_mixes_15 : decode cX10_mixes 15 = .ok (.istore_n 3, 1) := by decide +kernel
theorem dX10_mixes_16 : decode cX10_mixes 16 = .ok (.aload_n 0, 1) := by decide +kernel
theorem dX10_mixes_17 : decode cX10_mixes 17 = .ok (.getfield 71, 3) := by decide +kernel
theorem dX10_mixes_20 : decode cX10_mixes 20 = .ok (.iload_n 2, 1) := by decide +kernel
theorem dX10_mixes_21 : decode cX10_mixes 21 = .ok (.iaload, 1) := by decide +kernel
theorem dX10_mixes_22 : decode cX10_mixes 22 = .ok (.istore 4, 2) := by decide +kernel
theorem dX10_mixes_24 : decode cX10_mixes 24 = .ok (.aload_n 0, 1) := by decide +kernel
theorem dX10_mixes_25 : decode cX10_mixes 25 = .ok (.getfield 71, 3) := by decide +kernel
theorem dX10_mixes_28 : decode cX10_mixes 28 = .ok (.iload_n 2, 1) := by decide +kernel
theorem dX10_mixes_29 : decode cX10_mixes 29 = .ok (.aload_n 0, 1) := by decide +kernel
theorem dX10_mixes_30 : decode cX10_mixes 30 = .ok (.getfield 71, 3) := by decide +kernel
theorem dX10_mixes_33 : decode cX10_mixes 33 = .ok (.iload_n 3, 1) := by decide +kernel
theorem dX10_mixes_34 : decode cX10_mixes 34 = .ok (.iaload, 1) := by decide +kernel
theorem dX10_mixes_35 : decode cX10_mixes 35 = .ok (.iastore, 1) := by decide +kernel
theorem dX10_mixes_36 : decode cX10_mixes 36 = .ok (.aload_n 0, 1) := by decide +kernel
theorem dX10_mixes_37 : decode cX10_mixes 37 = .ok (.getfield 71, 3) := by decide +kernel
theorem dX10_mixes_40 : decode cX10_mixes 40 = .ok (.iload_n 3, 1) := by decide +kernel
theorem dX10_mixes_41 : decode cX10_mixes 41 = .ok (.iload 4, 2) := by decide +kernel
theorem dX10_mixes_43 : decode cX10_mixes 43 = .ok (.iastore, 1) := by decide +kernel
theorem dX10_mixes_44 : decode cX10_mixes 44 = .ok (.iinc 2 (-1), 3) := by decide +kernel
theorem dX10_mixes_47 : decode cX10_mixes 47 = .ok (.goto (-43), 3) := by decide +kernel
theorem dX10_mixes_50 : decode cX10_mixes 50 = .ok (.return_, 1) := by decide +kernel
theorem dX10_plainly_0 : decode cX10_plainly 0 = .ok (.aload_n 0, 1) := by decide +kernel
theorem dX10_plainly_1 : decode cX10_plainly 1 = .ok (.iconst (-1), 1) := by decide +kernel
theorem dX10_plainly_2 : decode cX10_plainly 2 = .ok (.putfield 53, 3) := by decide +kernel
theorem dX10_plainly_5 : decode cX10_plainly 5 = .ok (.aload_n 0, 1) := by decide +kernel
theorem dX10_plainly_6 : decode cX10_plainly 6 = .ok (.aload_n 0, 1) := by decide +kernel
theorem dX10_plainly_7 : decode cX10_plainly 7 = .ok (.getfield 34, 3) := by decide +kernel
theorem dX10_plainly_10 : decode cX10_plainly 10 = .ok (.iconst 3, 1) := by decide +kernel
theorem dX10_plainly_11 : decode cX10_plainly 11 = .ok (.iaload, 1) := by decide +kernel
theorem dX10_plainly_12 : decode cX10_plainly 12 = .ok (.putfield 321, 3) := by decide +kernel
theorem dX10_plainly_15 : decode cX10_plainly 15 = .ok (.aload_n 0, 1) := by decide +kernel
theorem dX10_plainly_16 : decode cX10_plainly 16 = .ok (.iconst 0, 1) := by decide +kernel
theorem dX10_plainly_17 : decode cX10_plainly 17 = .ok (.putfield 357, 3) := by decide +kernel
theorem dX10_plainly_20 : decode cX10_plainly 20 = .ok (.aload_n 0, 1) := by decide +kernel
theorem dX10_plainly_21 : decode cX10_plainly 21 = .ok (.sipush 1000, 3) := by decide +kernel
theorem dX10_plainly_24 : decode cX10_plainly 24 = .ok (.putfield 354, 3) := by decide +kernel
theorem dX10_plainly_27 : decode cX10_plainly 27 = .ok (.return_, 1) := by decide +kernel
theorem dX10_asTold_0 : decode cX10_asTold 0 = .ok (.aload_n 0, 1) := by decide +kernel
theorem dX10_asTold_1 : decode cX10_asTold 1 = .ok (.invokevirtual 372, 3) := by decide +kernel
theorem dX10_asTold_4 : decode cX10_asTold 4 = .ok (.aload_n 0, 1) := by decide +kernel
theorem dX10_asTold_5 : decode cX10_asTold 5 = .ok (.invokevirtual 375, 3) := by decide +kernel
theorem dX10_asTold_8 : decode cX10_asTold 8 = .ok (.aload_n 0, 1) := by decide +kernel
theorem dX10_asTold_9 : decode cX10_asTold 9 = .ok (.aload_n 0, 1) := by decide +kernel
theorem dX10_asTold_10 : decode cX10_asTold 10 = .ok (.getfield 34, 3) := by decide +kernel
theorem dX10_asTold_13 : decode cX10_asTold 13 = .ok (.iconst 1, 1) := by decide +kernel
theorem dX10_asTold_14 : decode cX10_asTold 14 = .ok (.iaload, 1) := by decide +kernel
theorem dX10_asTold_15 : decode cX10_asTold 15 = .ok (.iconst 1, 1) := by decide +kernel
theorem dX10_asTold_16 : decode cX10_asTold 16 = .ok (.isub, 1) := by decide +kernel
theorem dX10_asTold_17 : decode cX10_asTold 17 = .ok (.invokevirtual 363, 3) := by decide +kernel
theorem dX10_asTold_20 : decode cX10_asTold 20 = .ok (.return_, 1) := by decide +kernel
theorem dX10_paidBy_0 : decode cX10_paidBy 0 = .ok (.aload_n 0, 1) := by decide +kernel
theorem dX10_paidBy_1 : decode cX10_paidBy 1 = .ok (.getfield 77, 3) := by decide +kernel
theorem dX10_paidBy_4 : decode cX10_paidBy 4 = .ok (.iload_n 1, 1) := by decide +kernel
theorem dX10_paidBy_5 : decode cX10_paidBy 5 = .ok (.iaload, 1) := by decide +kernel
theorem dX10_paidBy_6 : decode cX10_paidBy 6 = .ok (.aload_n 0, 1) := by decide +kernel
theorem dX10_paidBy_7 : decode cX10_paidBy 7 = .ok (.getfield 37, 3) := by decide +kernel
theorem dX10_paidBy_10 : decode cX10_paidBy 10 = .ok (.iconst 4, 1) := by decide +kernel
theorem dX10_paidBy_11 : decode cX10_paidBy 11 = .ok (.iaload, 1) := by decide +kernel
theorem dX10_paidBy_12 : decode cX10_paidBy 12 = .ok (.imul, 1) := by decide +kernel
theorem dX10_paidBy_13 : decode cX10_paidBy 13 = .ok (.ireturn, 1) := by decide +kernel
theorem dX10_othersThan_0 : decode cX10_othersThan 0 = .ok (.iconst 0, 1) := by decide +kernel
theorem dX10_othersThan_1 : decode cX10_othersThan 1 = .ok (.istore_n 2, 1) := by decide +kernel
theorem dX10_othersThan_2 : decode cX10_othersThan 2 = .ok (.iconst 0, 1) := by decide +kernel
theorem dX10_othersThan_3 : decode cX10_othersThan 3 = .ok (.istore_n 3, 1) := by decide +kernel
theorem dX10_othersThan_4 : decode cX10_othersThan 4 = .ok (.iload_n 3, 1) := by decide +kernel
theorem dX10_othersThan_5 : decode cX10_othersThan 5 = .ok (.iconst 5, 1) := by decide +kernel
theorem dX10_othersThan_6 : decode cX10_othersThan 6 = .ok (.if_icmp .ge 26, 3) := by decide +kernel
theorem dX10_othersThan_9 : decode cX10_othersThan 9 = .ok (.iload_n 2, 1) := by decide +kernel
theorem dX10_othersThan_10 : decode cX10_othersThan 10 = .ok (.iload_n 3, 1) := by decide +kernel
theorem dX10_othersThan_11 : decode cX10_othersThan 11 = .ok (.iload_n 1, 1) := by decide +kernel
theorem dX10_othersThan_12 : decode cX10_othersThan 12 = .ok (.if_icmp .ne 7, 3) := by decide +kernel
theorem dX10_othersThan_15 : decode cX10_othersThan 15 = .ok (.iconst 0, 1) := by decide +kernel
theorem dX10_othersThan_16 : decode cX10_othersThan 16 = .ok (.goto 8, 3) := by decide +kernel
theorem dX10_othersThan_19 : decode cX10_othersThan 19 = .ok (.aload_n 0, 1) := by decide +kernel
theorem dX10_othersThan_20 : decode cX10_othersThan 20 = .ok (.iload_n 3, 1) := by decide +kernel
theorem dX10_othersThan_21 : decode cX10_othersThan 21 = .ok (.invokevirtual 378, 3) := by decide +kernel
theorem dX10_othersThan_24 : decode cX10_othersThan 24 = .ok (.iadd, 1) := by decide +kernel
theorem dX10_othersThan_25 : decode cX10_othersThan 25 = .ok (.istore_n 2, 1) := by decide +kernel
theorem dX10_othersThan_26 : decode cX10_othersThan 26 = .ok (.iinc 3 1, 3) := by decide +kernel
theorem dX10_othersThan_29 : decode cX10_othersThan 29 = .ok (.goto (-25), 3) := by decide +kernel
theorem dX10_othersThan_32 : decode cX10_othersThan 32 = .ok (.iload_n 2, 1) := by decide +kernel
theorem dX10_othersThan_33 : decode cX10_othersThan 33 = .ok (.ireturn, 1) := by decide +kernel
theorem dX10_counter_0 : decode cX10_counter 0 = .ok (.aload_n 0, 1) := by decide +kernel
theorem dX10_counter_1 : decode cX10_counter 1 = .ok (.iconst 0, 1) := by decide +kernel
theorem dX10_counter_2 : decode cX10_counter 2 = .ok (.putfield 104, 3) := by decide +kernel
theorem dX10_counter_5 : decode cX10_counter 5 = .ok (.aload_n 0, 1) := by decide +kernel
theorem dX10_counter_6 : decode cX10_counter 6 = .ok (.iload_n 1, 1) := by decide +kernel
theorem dX10_counter_7 : decode cX10_counter 7 = .ok (.invokevirtual 308, 3) := by decide +kernel
theorem dX10_counter_10 : decode cX10_counter 10 = .ok (.ifCond .eq 18, 3) := by decide +kernel
theorem dX10_counter_13 : decode cX10_counter 13 = .ok (.aload_n 0, 1) := by decide +kernel
theorem dX10_counter_14 : decode cX10_counter 14 = .ok (.iload_n 2, 1) := by decide +kernel
theorem dX10_counter_15 : decode cX10_counter 15 = .ok (.invokevirtual 381, 3) := by decide +kernel
theorem dX10_counter_18 : decode cX10_counter 18 = .ok (.ifCond .eq 10, 3) := by decide +kernel
theorem dX10_counter_21 : decode cX10_counter 21 = .ok (.iload_n 3, 1) := by decide +kernel
theorem dX10_counter_22 : decode cX10_counter 22 = .ok (.invokestatic 311, 3) := by decide +kernel
theorem dX10_counter_25 : decode cX10_counter 25 = .ok (.ifCond .ne 6, 3) := by decide +kernel
theorem dX10_counter_28 : decode cX10_counter 28 = .ok (.bipush (-2), 2) := by decide +kernel
theorem dX10_counter_30 : decode cX10_counter 30 = .ok (.ireturn, 1) := by decide +kernel
theorem dX10_counter_31 : decode cX10_counter 31 = .ok (.aload_n 0, 1) := by decide +kernel
theorem dX10_counter_32 : decode cX10_counter 32 = .ok (.invokevirtual 372, 3) := by decide +kernel
theorem dX10_counter_35 : decode cX10_counter 35 = .ok (.aload_n 0, 1) := by decide +kernel
theorem dX10_counter_36 : decode cX10_counter 36 = .ok (.bipush 24, 2) := by decide +kernel
theorem dX10_counter_38 : decode cX10_counter 38 = .ok (.iload_n 2, 1) := by decide +kernel
theorem dX10_counter_39 : decode cX10_counter 39 = .ok (.imul, 1) := by decide +kernel
theorem dX10_counter_40 : decode cX10_counter 40 = .ok (.iload_n 3, 1) := by decide +kernel
theorem dX10_counter_41 : decode cX10_counter 41 = .ok (.iadd, 1) := by decide +kernel
theorem dX10_counter_42 : decode cX10_counter 42 = .ok (.putfield 354, 3) := by decide +kernel
theorem dX10_counter_45 : decode cX10_counter 45 = .ok (.aload_n 0, 1) := by decide +kernel
theorem dX10_counter_46 : decode cX10_counter 46 = .ok (.invokevirtual 375, 3) := by decide +kernel
theorem dX10_counter_49 : decode cX10_counter 49 = .ok (.aload_n 0, 1) := by decide +kernel
theorem dX10_counter_50 : decode cX10_counter 50 = .ok (.iload_n 2, 1) := by decide +kernel
theorem dX10_counter_51 : decode cX10_counter 51 = .ok (.invokevirtual 363, 3) := by decide +kernel
theorem dX10_counter_54 : decode cX10_counter 54 = .ok (.aload_n 0, 1) := by decide +kernel
theorem dX10_counter_55 : decode cX10_counter 55 = .ok (.getfield 59, 3) := by decide +kernel
theorem dX10_counter_58 : decode cX10_counter 58 = .ok (.aload_n 0, 1) := by decide +kernel
theorem dX10_counter_59 : decode cX10_counter 59 = .ok (.iload_n 1, 1) := by decide +kernel
theorem dX10_counter_60 : decode cX10_counter 60 = .ok (.invokevirtual 334, 3) := by decide +kernel
theorem dX10_counter_63 : decode cX10_counter 63 = .ok (.iaload, 1) := by decide +kernel
theorem dX10_counter_64 : decode cX10_counter 64 = .ok (.ireturn, 1) := by decide +kernel
theorem dX10_through_0 : decode cX10_through 0 = .ok (.aload_n 0, 1) := by decide +kernel
theorem dX10_through_1 : decode cX10_through 1 = .ok (.iconst 0, 1) := by decide +kernel
theorem dX10_through_2 : decode cX10_through 2 = .ok (.putfield 104, 3) := by decide +kernel
theorem dX10_through_5 : decode cX10_through 5 = .ok (.aload_n 0, 1) := by decide +kernel
theorem dX10_through_6 : decode cX10_through 6 = .ok (.iload_n 1, 1) := by decide +kernel
theorem dX10_through_7 : decode cX10_through 7 = .ok (.invokevirtual 308, 3) := by decide +kernel
theorem dX10_through_10 : decode cX10_through 10 = .ok (.ifCond .eq 21, 3) := by decide +kernel
theorem dX10_through_13 : decode cX10_through 13 = .ok (.aload_n 0, 1) := by decide +kernel
theorem dX10_through_14 : decode cX10_through 14 = .ok (.iload_n 2, 1) := by decide +kernel
theorem dX10_through_15 : decode cX10_through 15 = .ok (.invokevirtual 381, 3) := by decide +kernel
theorem dX10_through_18 : decode cX10_through 18 = .ok (.ifCond .eq 13, 3) := by decide +kernel
theorem dX10_through_21 : decode cX10_through 21 = .ok (.iload_n 3, 1) := by decide +kernel
theorem dX10_through_22 : decode cX10_through 22 = .ok (.i2l, 1) := by decide +kernel
theorem dX10_through_23 : decode cX10_through 23 = .ok (.lconst 0, 1) := by decide +kernel
theorem dX10_through_24 : decode cX10_through 24 = .ok (.lconst 1, 1) := by decide +kernel
theorem dX10_through_25 : decode cX10_through 25 = .ok (.invokestatic 109, 3) := by decide +kernel
theorem dX10_through_28 : decode cX10_through 28 = .ok (.ifCond .ne 6, 3) := by decide +kernel
theorem dX10_through_31 : decode cX10_through 31 = .ok (.bipush (-2), 2) := by decide +kernel
theorem dX10_through_33 : decode cX10_through 33 = .ok (.ireturn, 1) := by decide +kernel
theorem dX10_through_34 : decode cX10_through 34 = .ok (.aload_n 0, 1) := by decide +kernel
theorem dX10_through_35 : decode cX10_through 35 = .ok (.invokevirtual 384, 3) := by decide +kernel
theorem dX10_through_38 : decode cX10_through 38 = .ok (.iload_n 3, 1) := by decide +kernel
theorem dX10_through_39 : decode cX10_through 39 = .ok (.ifCond .ne 17, 3) := by decide +kernel
theorem dX10_through_42 : decode cX10_through 42 = .ok (.aload_n 0, 1) := by decide +kernel
theorem dX10_through_43 : decode cX10_through 43 = .ok (.getfield 65, 3) := by decide +kernel
theorem dX10_through_46 : decode cX10_through 46 = .ok (.bipush 9, 2) := by decide +kernel
theorem dX10_through_48 : decode cX10_through 48 = .ok (.iload_n 1, 1) := by decide +kernel
theorem dX10_through_49 : decode cX10_through 49 = .ok (.imul, 1) := by decide +kernel
theorem dX10_through_50 : decode cX10_through 50 = .ok (.iload_n 2, 1) := by decide +kernel
theorem dX10_through_51 : decode cX10_through 51 = .ok (.iadd, 1) := by decide +kernel
theorem dX10_through_52 : decode cX10_through 52 = .ok (.iaload, 1) := by decide +kernel
theorem dX10_through_53 : decode cX10_through 53 = .ok (.goto 14, 3) := by decide +kernel
theorem dX10_through_56 : decode cX10_through 56 = .ok (.aload_n 0, 1) := by decide +kernel
theorem dX10_through_57 : decode cX10_through 57 = .ok (.getfield 68, 3) := by decide +kernel
theorem dX10_through_60 : decode cX10_through 60 = .ok (.bipush 9, 2) := by decide +kernel
theorem dX10_through_62 : decode cX10_through 62 = .ok (.iload_n 1, 1) := by decide +kernel
theorem dX10_through_63 : decode cX10_through 63 = .ok (.imul, 1) := by decide +kernel
theorem dX10_through_64 : decode cX10_through 64 = .ok (.iload_n 2, 1) := by decide +kernel
theorem dX10_through_65 : decode cX10_through 65 = .ok (.iadd, 1) := by decide +kernel
theorem dX10_through_66 : decode cX10_through 66 = .ok (.iaload, 1) := by decide +kernel
theorem dX10_through_67 : decode cX10_through 67 = .ok (.ireturn, 1) := by decide +kernel
theorem dX10_dues_0 : decode cX10_dues 0 = .ok (.aload_n 0, 1) := by decide +kernel
theorem dX10_dues_1 : decode cX10_dues 1 = .ok (.iconst 0, 1) := by decide +kernel
theorem dX10_dues_2 : decode cX10_dues 2 = .ok (.putfield 104, 3) := by decide +kernel
theorem dX10_dues_5 : decode cX10_dues 5 = .ok (.aload_n 0, 1) := by decide +kernel
theorem dX10_dues_6 : decode cX10_dues 6 = .ok (.invokevirtual 280, 3) := by decide +kernel
theorem dX10_dues_9 : decode cX10_dues 9 = .ok (.ifCond .ne 6, 3) := by decide +kernel
theorem dX10_dues_12 : decode cX10_dues 12 = .ok (.bipush (-2), 2) := by decide +kernel
theorem dX10_dues_14 : decode cX10_dues 14 = .ok (.ireturn, 1) := by decide +kernel
theorem dX10_dues_15 : decode cX10_dues 15 = .ok (.aload_n 0, 1) := by decide +kernel
theorem dX10_dues_16 : decode cX10_dues 16 = .ok (.invokevirtual 384, 3) := by decide +kernel
theorem dX10_dues_19 : decode cX10_dues 19 = .ok (.aload_n 0, 1) := by decide +kernel
theorem dX10_dues_20 : decode cX10_dues 20 = .ok (.getfield 328, 3) := by decide +kernel
theorem dX10_dues_23 : decode cX10_dues 23 = .ok (.ireturn, 1) := by decide +kernel
theorem dX10_due_0 : decode cX10_due 0 = .ok (.aload_n 0, 1) := by decide +kernel
theorem dX10_due_1 : decode cX10_due 1 = .ok (.iconst 0, 1) := by decide +kernel
theorem dX10_due_2 : decode cX10_due 2 = .ok (.putfield 104, 3) := by decide +kernel
theorem dX10_due_5 : decode cX10_due 5 = .ok (.aload_n 0, 1) := by decide +kernel
theorem dX10_due_6 : decode cX10_due 6 = .ok (.invokevirtual 280, 3) := by decide +kernel
theorem dX10_due_9 : decode cX10_due 9 = .ok (.ifCond .eq 15, 3) := by decide +kernel
theorem dX10_due_12 : decode cX10_due 12 = .ok (.iload_n 2, 1) := by decide +kernel
theorem dX10_due_13 : decode cX10_due 13 = .ok (.i2l, 1) := by decide +kernel
theorem dX10_due_14 : decode cX10_due 14 = .ok (.lconst 0, 1) := by decide +kernel
theorem dX10_due_15 : decode cX10_due 15 = .ok (.ldc2_w 387, 3) := by decide +kernel
theorem dX10_due_18 : decode cX10_due 18 = .ok (.invokestatic 109, 3) := by decide +kernel
theorem dX10_due_21 : decode cX10_due 21 = .ok (.ifCond .ne 6, 3) := by decide +kernel
theorem dX10_due_24 : decode cX10_due 24 = .ok (.bipush (-2), 2) := by decide +kernel
theorem dX10_due_26 : decode cX10_due 26 = .ok (.ireturn, 1) := by decide +kernel
theorem dX10_due_27 : decode cX10_due 27 = .ok (.aload_n 0, 1) := by decide +kernel
theorem dX10_due_28 : decode cX10_due 28 = .ok (.invokevirtual 384, 3) := by decide +kernel
theorem dX10_due_31 : decode cX10_due 31 = .ok (.iload_n 1, 1) := by decide +kernel
theorem dX10_due_32 : decode cX10_due 32 = .ok (.i2l, 1) := by decide +kernel
theorem dX10_due_33 : decode cX10_due 33 = .ok (.lconst 0, 1) := by decide +kernel
theorem dX10_due_34 : decode cX10_due 34 = .ok (.aload_n 0, 1) := by decide +kernel
theorem dX10_due_35 : decode cX10_due 35 = .ok (.getfield 328, 3) := by decide +kernel
theorem dX10_due_38 : decode cX10_due 38 = .ok (.iconst 1, 1) := by decide +kernel
theorem dX10_due_39 : decode cX10_due 39 = .ok (.isub, 1) := by decide +kernel
theorem dX10_due_40 : decode cX10_due 40 = .ok (.i2l, 1) := by decide +kernel
theorem dX10_due_41 : decode cX10_due 41 = .ok (.invokestatic 109, 3) := by decide +kernel
theorem dX10_due_44 : decode cX10_due 44 = .ok (.ifCond .ne 5, 3) := by decide +kernel
theorem dX10_due_47 : decode cX10_due 47 = .ok (.iconst (-1), 1) := by decide +kernel
theorem dX10_due_48 : decode cX10_due 48 = .ok (.ireturn, 1) := by decide +kernel
theorem dX10_due_49 : decode cX10_due 49 = .ok (.aload_n 0, 1) := by decide +kernel
theorem dX10_due_50 : decode cX10_due 50 = .ok (.getfield 74, 3) := by decide +kernel
theorem dX10_due_53 : decode cX10_due 53 = .ok (.iconst 4, 1) := by decide +kernel
theorem dX10_due_54 : decode cX10_due 54 = .ok (.iload_n 1, 1) := by decide +kernel
theorem dX10_due_55 : decode cX10_due 55 = .ok (.imul, 1) := by decide +kernel
theorem dX10_due_56 : decode cX10_due 56 = .ok (.iaload, 1) := by decide +kernel
theorem dX10_due_57 : decode cX10_due 57 = .ok (.istore_n 3, 1) := by decide +kernel
theorem dX10_due_58 : decode cX10_due 58 = .ok (.aload_n 0, 1) := by decide +kernel
theorem dX10_due_59 : decode cX10_due 59 = .ok (.getfield 74, 3) := by decide +kernel
theorem dX10_due_62 : decode cX10_due 62 = .ok (.iconst 4, 1) := by decide +kernel
theorem dX10_due_63 : decode cX10_due 63 = .ok (.iload_n 1, 1) := by decide +kernel
theorem dX10_due_64 : decode cX10_due 64 = .ok (.imul, 1) := by decide +kernel
theorem dX10_due_65 : decode cX10_due 65 = .ok (.iconst 2, 1) := by decide +kernel
theorem dX10_due_66 : decode cX10_due 66 = .ok (.iadd, 1) := by decide +kernel
theorem dX10_due_67 : decode cX10_due 67 = .ok (.iaload, 1) := by decide +kernel
theorem dX10_due_68 : decode cX10_due 68 = .ok (.istore 4, 2) := by decide +kernel
theorem dX10_due_70 : decode cX10_due 70 = .ok (.iload_n 2, 1) := by decide +kernel
theorem dX10_due_71 : decode cX10_due 71 = .ok (.ifCond .ne 10, 3) := by decide +kernel
theorem dX10_due_74 : decode cX10_due 74 = .ok (.iload_n 3, 1) := by decide +kernel
theorem dX10_due_75 : decode cX10_due 75 = .ok (.bipush 24, 2) := by decide +kernel
theorem dX10_due_77 : decode cX10_due 77 = .ok (.idiv, 1) := by decide +kernel
theorem dX10_due_78 : decode cX10_due 78 = .ok (.goto 69, 3) := by decide +kernel
theorem dX10_due_81 : decode cX10_due 81 = .ok (.iload_n 2, 1) := by decide +kernel
theorem dX10_due_82 : decode cX10_due 82 = .ok (.iconst 1, 1) := by decide +kernel
theorem dX10_due_83 : decode cX10_due 83 = .ok (.if_icmp .ne 10, 3) := by decide +kernel
theorem dX10_due_86 : decode cX10_due 86 = .ok (.iload_n 3, 1) := by decide +kernel
theorem dX10_due_87 : decode cX10_due 87 = .ok (.bipush 24, 2) := by decide +kernel
theorem dX10_due_89 : decode cX10_due 89 = .ok (.irem, 1) := by decide +kernel
theorem dX10_due_90 : decode cX10_due 90 = .ok (.goto 57, 3) := by decide +kernel
theorem dX10_due_93 : decode cX10_due 93 = .ok (.iload_n 2, 1) := by decide +kernel
theorem dX10_due_94 : decode cX10_due 94 = .ok (.iconst 2, 1) := by decide +kernel
theorem dX10_due_95 : decode cX10_due 95 = .ok (.if_icmp .ne 16, 3) := by decide +kernel
theorem dX10_due_98 : decode cX10_due 98 = .ok (.aload_n 0, 1) := by decide +kernel
theorem dX10_due_99 : decode cX10_due 99 = .ok (.getfield 74, 3) := by decide +kernel
theorem dX10_due_102 : decode cX10_due 102 = .ok (.iconst 4, 1) := by decide +kernel
theorem dX10_due_103 : decode cX10_due 103 = .ok (.iload_n 1, 1) := by decide +kernel
theorem dX10_due_104 : decode cX10_due 104 = .ok (.imul, 1) := by decide +kernel
theorem dX10_due_105 : decode cX10_due 105 = .ok (.iconst 1, 1) := by decide +kernel
theorem dX10_due_106 : decode cX10_due 106 = .ok (.iadd, 1) := by decide +kernel
theorem dX10_due_107 : decode cX10_due 107 = .ok (.iaload, 1) := by decide +kernel
theorem dX10_due_108 : decode cX10_due 108 = .ok (.goto 39, 3) := by decide +kernel
theorem dX10_due_111 : decode cX10_due 111 = .ok (.iload_n 2, 1) := by decide +kernel
theorem dX10_due_112 : decode cX10_due 112 = .ok (.iconst 3, 1) := by decide +kernel
theorem dX10_due_113 : decode cX10_due 113 = .ok (.if_icmp .ne 14, 3) := by decide +kernel
theorem dX10_due_116 : decode cX10_due 116 = .ok (.aload_n 0, 1) := by decide +kernel
theorem dX10_due_117 : decode cX10_due 117 = .ok (.iload 4, 2) := by decide +kernel
theorem dX10_due_119 : decode cX10_due 119 = .ok (.bipush 6, 2) := by decide +kernel
theorem dX10_due_121 : decode cX10_due 121 = .ok (.invokevirtual 285, 3) := by decide +kernel
theorem dX10_due_124 : decode cX10_due 124 = .ok (.goto 23, 3) := by decide +kernel
theorem dX10_due_127 : decode cX10_due 127 = .ok (.iload_n 2, 1) := by decide +kernel
theorem dX10_due_128 : decode cX10_due 128 = .ok (.iconst 4, 1) := by decide +kernel
theorem dX10_due_129 : decode cX10_due 129 = .ok (.if_icmp .ne 8, 3) := by decide +kernel
theorem dX10_due_132 : decode cX10_due 132 = .ok (.iload 4, 2) := by decide +kernel
theorem dX10_due_134 : decode cX10_due 134 = .ok (.goto 13, 3) := by decide +kernel
theorem dX10_due_137 : decode cX10_due 137 = .ok (.aload_n 0, 1) := by decide +kernel
theorem dX10_due_138 : decode cX10_due 138 = .ok (.getfield 74, 3) := by decide +kernel
theorem dX10_due_141 : decode cX10_due 141 = .ok (.iconst 4, 1) := by decide +kernel
theorem dX10_due_142 : decode cX10_due 142 = .ok (.iload_n 1, 1) := by decide +kernel
theorem dX10_due_143 : decode cX10_due 143 = .ok (.imul, 1) := by decide +kernel
theorem dX10_due_144 : decode cX10_due 144 = .ok (.iconst 3, 1) := by decide +kernel
theorem dX10_due_145 : decode cX10_due 145 = .ok (.iadd, 1) := by decide +kernel
theorem dX10_due_146 : decode cX10_due 146 = .ok (.iaload, 1) := by decide +kernel
theorem dX10_due_147 : decode cX10_due 147 = .ok (.ireturn, 1) := by decide +kernel
theorem dX10_paid_0 : decode cX10_paid 0 = .ok (.aload_n 0, 1) := by decide +kernel
theorem dX10_paid_1 : decode cX10_paid 1 = .ok (.iconst 0, 1) := by decide +kernel
theorem dX10_paid_2 : decode cX10_paid 2 = .ok (.putfield 104, 3) := by decide +kernel
theorem dX10_paid_5 : decode cX10_paid 5 = .ok (.aload_n 0, 1) := by decide +kernel
theorem dX10_paid_6 : decode cX10_paid 6 = .ok (.iload_n 1, 1) := by decide +kernel
theorem dX10_paid_7 : decode cX10_paid 7 = .ok (.i2l, 1) := by decide +kernel
theorem dX10_paid_8 : decode cX10_paid 8 = .ok (.invokevirtual 389, 3) := by decide +kernel
theorem dX10_paid_11 : decode cX10_paid 11 = .ok (.ifCond .ne 6, 3) := by decide +kernel
theorem dX10_paid_14 : decode cX10_paid 14 = .ok (.bipush (-2), 2) := by decide +kernel
theorem dX10_paid_16 : decode cX10_paid 16 = .ok (.ireturn, 1) := by decide +kernel
theorem dX10_paid_17 : decode cX10_paid 17 = .ok (.aload_n 0, 1) := by decide +kernel
theorem dX10_paid_18 : decode cX10_paid 18 = .ok (.invokevirtual 384, 3) := by decide +kernel
theorem dX10_paid_21 : decode cX10_paid 21 = .ok (.aload_n 0, 1) := by decide +kernel
theorem dX10_paid_22 : decode cX10_paid 22 = .ok (.iload_n 1, 1) := by decide +kernel
theorem dX10_paid_23 : decode cX10_paid 23 = .ok (.invokevirtual 378, 3) := by decide +kernel
theorem dX10_paid_26 : decode cX10_paid 26 = .ok (.ireturn, 1) := by decide +kernel
theorem dX10_pays_0 : decode cX10_pays 0 = .ok (.aload_n 0, 1) := by decide +kernel
theorem dX10_pays_1 : decode cX10_pays 1 = .ok (.iconst 0, 1) := by decide +kernel
theorem dX10_pays_2 : decode cX10_pays 2 = .ok (.putfield 104, 3) := by decide +kernel
theorem dX10_pays_5 : decode cX10_pays 5 = .ok (.aload_n 0, 1) := by decide +kernel
theorem dX10_pays_6 : decode cX10_pays 6 = .ok (.iload_n 1, 1) := by decide +kernel
theorem dX10_pays_7 : decode cX10_pays 7 = .ok (.i2l, 1) := by decide +kernel
theorem dX10_pays_8 : decode cX10_pays 8 = .ok (.invokevirtual 389, 3) := by decide +kernel
theorem dX10_pays_11 : decode cX10_pays 11 = .ok (.ifCond .eq 11, 3) := by decide +kernel
theorem dX10_pays_14 : decode cX10_pays 14 = .ok (.aload_n 0, 1) := by decide +kernel
theorem dX10_pays_15 : decode cX10_pays 15 = .ok (.iload_n 2, 1) := by decide +kernel
theorem dX10_pays_16 : decode cX10_pays 16 = .ok (.invokevirtual 381, 3) := by decide +kernel
theorem dX10_pays_19 : decode cX10_pays 19 = .ok (.ifCond .ne 6, 3) := by decide +kernel
theorem dX10_pays_22 : decode cX10_pays 22 = .ok (.bipush (-2), 2) := by decide +kernel
theorem dX10_pays_24 : decode cX10_pays 24 = .ok (.ireturn, 1) := by decide +kernel
theorem dX10_pays_25 : decode cX10_pays 25 = .ok (.aload_n 0, 1) := by decide +kernel
theorem dX10_pays_26 : decode cX10_pays 26 = .ok (.invokevirtual 384, 3) := by decide +kernel
theorem dX10_pays_29 : decode cX10_pays 29 = .ok (.iconst 0, 1) := by decide +kernel
theorem dX10_pays_30 : decode cX10_pays 30 = .ok (.istore_n 3, 1) := by decide +kernel
theorem dX10_pays_31 : decode cX10_pays 31 = .ok (.iconst 0, 1) := by decide +kernel
theorem dX10_pays_32 : decode cX10_pays 32 = .ok (.istore 4, 2) := by decide +kernel
theorem dX10_pays_34 : decode cX10_pays 34 = .ok (.iload 4, 2) := by decide +kernel
theorem dX10_pays_36 : decode cX10_pays 36 = .ok (.aload_n 0, 1) := by decide +kernel
theorem dX10_pays_37 : decode cX10_pays 37 = .ok (.getfield 328, 3) := by decide +kernel
theorem dX10_pays_40 : decode cX10_pays 40 = .ok (.if_icmp .ge 54, 3) := by decide +kernel
theorem dX10_pays_43 : decode cX10_pays 43 = .ok (.iload_n 3, 1) := by decide +kernel
theorem dX10_pays_44 : decode cX10_pays 44 = .ok (.aload_n 0, 1) := by decide +kernel
theorem dX10_pays_45 : decode cX10_pays 45 = .ok (.getfield 74, 3) := by decide +kernel
theorem dX10_pays_48 : decode cX10_pays 48 = .ok (.iconst 4, 1) := by decide +kernel
theorem dX10_pays_49 : decode cX10_pays 49 = .ok (.iload 4, 2) := by decide +kernel
theorem dX10_pays_51 : decode cX10_pays 51 = .ok (.imul, 1) := by decide +kernel
theorem dX10_pays_52 : decode cX10_pays 52 = .ok (.iaload, 1) := by decide +kernel
theorem dX10_pays_53 : decode cX10_pays 53 = .ok (.bipush 24, 2) := by decide +kernel
theorem dX10_pays_55 : decode cX10_pays 55 = .ok (.idiv, 1) := by decide +kernel
theorem dX10_pays_56 : decode cX10_pays 56 = .ok (.iload_n 2, 1) := by decide +kernel
theorem dX10_pays_57 : decode cX10_pays 57 = .ok (.if_icmp .ne 28, 3) := by decide +kernel
theorem dX10_pays_60 : decode cX10_pays 60 = .ok (.aload_n 0, 1) := by decide +kernel
theorem dX10_pays_61 : decode cX10_pays 61 = .ok (.aload_n 0, 1) := by decide +kernel
theorem dX10_pays_62 : decode cX10_pays 62 = .ok (.getfield 74, 3) := by decide +kernel
theorem dX10_pays_65 : decode cX10_pays 65 = .ok (.iconst 4, 1) := by decide +kernel
theorem dX10_pays_66 : decode cX10_pays 66 = .ok (.iload 4, 2) := by decide +kernel
theorem dX10_pays_68 : decode cX10_pays 68 = .ok (.imul, 1) := by decide +kernel
theorem dX10_pays_69 : decode cX10_pays 69 = .ok (.iconst 2, 1) := by decide +kernel
theorem dX10_pays_70 : decode cX10_pays 70 = .ok (.iadd, 1) := by decide +kernel
theorem dX10_pays_71 : decode cX10_pays 71 = .ok (.iaload, 1) := by decide +kernel
theorem dX10_pays_72 : decode cX10_pays 72 = .ok (.bipush 6, 2) := by decide +kernel
theorem dX10_pays_74 : decode cX10_pays 74 = .ok (.invokevirtual 285, 3) := by decide +kernel
theorem dX10_pays_77 : decode cX10_pays 77 = .ok (.iload_n 1, 1) := by decide +kernel
theorem dX10_pays_78 : decode cX10_pays 78 = .ok (.if_icmp .ne 7, 3) := by decide +kernel
theorem dX10_pays_81 : decode cX10_pays 81 = .ok (.iconst 1, 1) := by decide +kernel
theorem dX10_pays_82 : decode cX10_pays 82 = .ok (.goto 4, 3) := by decide +kernel
theorem dX10_pays_85 : decode cX10_pays 85 = .ok (.iconst 0, 1) := by decide +kernel
theorem dX10_pays_86 : decode cX10_pays 86 = .ok (.iadd, 1) := by decide +kernel
theorem dX10_pays_87 : decode cX10_pays 87 = .ok (.istore_n 3, 1) := by decide +kernel
theorem dX10_pays_88 : decode cX10_pays 88 = .ok (.iinc 4 1, 3) := by decide +kernel
theorem dX10_pays_91 : decode cX10_pays 91 = .ok (.goto (-57), 3) := by decide +kernel
theorem dX10_pays_94 : decode cX10_pays 94 = .ok (.iload_n 3, 1) := by decide +kernel
theorem dX10_pays_95 : decode cX10_pays 95 = .ok (.ireturn, 1) := by decide +kernel
theorem dX10_worst_0 : decode cX10_worst 0 = .ok (.aload_n 0, 1) := by decide +kernel
theorem dX10_worst_1 : decode cX10_worst 1 = .ok (.iconst 0, 1) := by decide +kernel
theorem dX10_worst_2 : decode cX10_worst 2 = .ok (.putfield 104, 3) := by decide +kernel
theorem dX10_worst_5 : decode cX10_worst 5 = .ok (.aload_n 0, 1) := by decide +kernel
theorem dX10_worst_6 : decode cX10_worst 6 = .ok (.invokevirtual 280, 3) := by decide +kernel
theorem dX10_worst_9 : decode cX10_worst 9 = .ok (.ifCond .ne 6, 3) := by decide +kernel
theorem dX10_worst_12 : decode cX10_worst 12 = .ok (.bipush (-2), 2) := by decide +kernel
theorem dX10_worst_14 : decode cX10_worst 14 = .ok (.ireturn, 1) := by decide +kernel
theorem dX10_worst_15 : decode cX10_worst 15 = .ok (.aload_n 0, 1) := by decide +kernel
theorem dX10_worst_16 : decode cX10_worst 16 = .ok (.invokevirtual 384, 3) := by decide +kernel
theorem dX10_worst_19 : decode cX10_worst 19 = .ok (.iconst (-1), 1) := by decide +kernel
theorem dX10_worst_20 : decode cX10_worst 20 = .ok (.istore_n 1, 1) := by decide +kernel
theorem dX10_worst_21 : decode cX10_worst 21 = .ok (.iconst 0, 1) := by decide +kernel
theorem dX10_worst_22 : decode cX10_worst 22 = .ok (.istore_n 2, 1) := by decide +kernel
theorem dX10_worst_23 : decode cX10_worst 23 = .ok (.iload_n 2, 1) := by decide +kernel
theorem dX10_worst_24 : decode cX10_worst 24 = .ok (.iconst 5, 1) := by decide +kernel
theorem dX10_worst_25 : decode cX10_worst 25 = .ok (.if_icmp .ge 35, 3) := by decide +kernel
theorem dX10_worst_28 : decode cX10_worst 28 = .ok (.aload_n 0, 1) := by decide +kernel
theorem dX10_worst_29 : decode cX10_worst 29 = .ok (.getfield 77, 3) := by decide +kernel
theorem dX10_worst_32 : decode cX10_worst 32 = .ok (.iload_n 2, 1) := by decide +kernel
theorem dX10_worst_33 : decode cX10_worst 33 = .ok (.iaload, 1) := by decide +kernel
theorem dX10_worst_34 : decode cX10_worst 34 = .ok (.iload_n 1, 1) := by decide +kernel
theorem dX10_worst_35 : decode cX10_worst 35 = .ok (.iconst (-1), 1) := by decide +kernel
theorem dX10_worst_36 : decode cX10_worst 36 = .ok (.if_icmp .ne 7, 3) := by decide +kernel
theorem dX10_worst_39 : decode cX10_worst 39 = .ok (.iconst 0, 1) := by decide +kernel
theorem dX10_worst_40 : decode cX10_worst 40 = .ok (.goto 9, 3) := by decide +kernel
theorem dX10_worst_43 : decode cX10_worst 43 = .ok (.aload_n 0, 1) := by decide +kernel
theorem dX10_worst_44 : decode cX10_worst 44 = .ok (.getfield 77, 3) := by decide +kernel
theorem dX10_worst_47 : decode cX10_worst 47 = .ok (.iload_n 1, 1) := by decide +kernel
theorem dX10_worst_48 : decode cX10_worst 48 = .ok (.iaload, 1) := by decide +kernel
theorem dX10_worst_49 : decode cX10_worst 49 = .ok (.if_icmp .le 5, 3) := by decide +kernel
theorem dX10_worst_52 : decode cX10_worst 52 = .ok (.iload_n 2, 1) := by decide +kernel
theorem dX10_worst_53 : decode cX10_worst 53 = .ok (.istore_n 1, 1) := by decide +kernel
theorem dX10_worst_54 : decode cX10_worst 54 = .ok (.iinc 2 1, 3) := by decide +kernel
theorem dX10_worst_57 : decode cX10_worst 57 = .ok (.goto (-34), 3) := by decide +kernel
theorem dX10_worst_60 : decode cX10_worst 60 = .ok (.iload_n 1, 1) := by decide +kernel
theorem dX10_worst_61 : decode cX10_worst 61 = .ok (.ireturn, 1) := by decide +kernel
theorem dX10_left_0 : decode cX10_left 0 = .ok (.aload_n 0, 1) := by decide +kernel
theorem dX10_left_1 : decode cX10_left 1 = .ok (.iconst 0, 1) := by decide +kernel
theorem dX10_left_2 : decode cX10_left 2 = .ok (.putfield 104, 3) := by decide +kernel
theorem dX10_left_5 : decode cX10_left 5 = .ok (.aload_n 0, 1) := by decide +kernel
theorem dX10_left_6 : decode cX10_left 6 = .ok (.iload_n 1, 1) := by decide +kernel
theorem dX10_left_7 : decode cX10_left 7 = .ok (.invokevirtual 308, 3) := by decide +kernel
theorem dX10_left_10 : decode cX10_left 10 = .ok (.ifCond .ne 6, 3) := by decide +kernel
theorem dX10_left_13 : decode cX10_left 13 = .ok (.bipush (-2), 2) := by decide +kernel
theorem dX10_left_15 : decode cX10_left 15 = .ok (.ireturn, 1) := by decide +kernel
theorem dX10_left_16 : decode cX10_left 16 = .ok (.aload_n 0, 1) := by decide +kernel
theorem dX10_left_17 : decode cX10_left 17 = .ok (.invokevirtual 384, 3) := by decide +kernel
theorem dX10_left_20 : decode cX10_left 20 = .ok (.aload_n 0, 1) := by decide +kernel
theorem dX10_left_21 : decode cX10_left 21 = .ok (.getfield 37, 3) := by decide +kernel
theorem dX10_left_24 : decode cX10_left 24 = .ok (.iconst 3, 1) := by decide +kernel
theorem dX10_left_25 : decode cX10_left 25 = .ok (.iaload, 1) := by decide +kernel
theorem dX10_left_26 : decode cX10_left 26 = .ok (.aload_n 0, 1) := by decide +kernel
theorem dX10_left_27 : decode cX10_left 27 = .ok (.getfield 59, 3) := by decide +kernel
theorem dX10_left_30 : decode cX10_left 30 = .ok (.aload_n 0, 1) := by decide +kernel
theorem dX10_left_31 : decode cX10_left 31 = .ok (.iload_n 1, 1) := by decide +kernel
theorem dX10_left_32 : decode cX10_left 32 = .ok (.invokevirtual 334, 3) := by decide +kernel
theorem dX10_left_35 : decode cX10_left 35 = .ok (.iaload, 1) := by decide +kernel
theorem dX10_left_36 : decode cX10_left 36 = .ok (.isub, 1) := by decide +kernel
theorem dX10_left_37 : decode cX10_left 37 = .ok (.istore_n 2, 1) := by decide +kernel
theorem dX10_left_38 : decode cX10_left 38 = .ok (.iload_n 2, 1) := by decide +kernel
theorem dX10_left_39 : decode cX10_left 39 = .ok (.iconst 1, 1) := by decide +kernel
theorem dX10_left_40 : decode cX10_left 40 = .ok (.if_icmp .ge 7, 3) := by decide +kernel
theorem dX10_left_43 : decode cX10_left 43 = .ok (.iconst 1, 1) := by decide +kernel
theorem dX10_left_44 : decode cX10_left 44 = .ok (.goto 4, 3) := by decide +kernel
theorem dX10_left_47 : decode cX10_left 47 = .ok (.iload_n 2, 1) := by decide +kernel
theorem dX10_left_48 : decode cX10_left 48 = .ok (.ireturn, 1) := by decide +kernel
theorem dX10_seeks_0 : decode cX10_seeks 0 = .ok (.aload_n 0, 1) := by decide +kernel
theorem dX10_seeks_1 : decode cX10_seeks 1 = .ok (.iload_n 1, 1) := by decide +kernel
theorem dX10_seeks_2 : decode cX10_seeks 2 = .ok (.iconst 1, 1) := by decide +kernel
theorem dX10_seeks_3 : decode cX10_seeks 3 = .ok (.invokevirtual 285, 3) := by decide +kernel
theorem dX10_seeks_6 : decode cX10_seeks 6 = .ok (.istore_n 3, 1) := by decide +kernel
theorem dX10_seeks_7 : decode cX10_seeks 7 = .ok (.aload_n 0, 1) := by decide +kernel
theorem dX10_seeks_8 : decode cX10_seeks 8 = .ok (.iload_n 1, 1) := by decide +kernel
theorem dX10_seeks_9 : decode cX10_seeks 9 = .ok (.iconst 3, 1) := by decide +kernel
theorem dX10_seeks_10 : decode cX10_seeks 10 = .ok (.invokevirtual 285, 3) := by decide +kernel
theorem dX10_seeks_13 : decode cX10_seeks 13 = .ok (.istore 4, 2) := by decide +kernel
theorem dX10_seeks_15 : decode cX10_seeks 15 = .ok (.aload_n 0, 1) := by decide +kernel
theorem dX10_seeks_16 : decode cX10_seeks 16 = .ok (.iconst (-1), 1) := by decide +kernel
theorem dX10_seeks_17 : decode cX10_seeks 17 = .ok (.putfield 392, 3) := by decide +kernel
theorem dX10_seeks_20 : decode cX10_seeks 20 = .ok (.iconst 0, 1) := by decide +kernel
theorem dX10_seeks_21 : decode cX10_seeks 21 = .ok (.istore 5, 2) := by decide +kernel
theorem dX10_seeks_23 : decode cX10_seeks 23 = .ok (.iload 5, 2) := by decide +kernel
theorem dX10_seeks_25 : decode cX10_seeks 25 = .ok (.aload_n 0, 1) := by decide +kernel
theorem dX10_seeks_26 : decode cX10_seeks 26 = .ok (.getfield 34, 3) := by decide +kernel
theorem dX10_seeks_29 : decode cX10_seeks 29 = .ok (.iconst 0, 1) := by decide +kernel
theorem dX10_seeks_30 : decode cX10_seeks 30 = .ok (.iaload, 1) := by decide +kernel
theorem dX10_seeks_31 : decode cX10_seeks 31 = .ok (.if_icmp .ge 82, 3) := by decide +kernel
theorem dX10_seeks_34 : decode cX10_seeks 34 = .ok (.iconst 0, 1) := by decide +kernel
theorem dX10_seeks_35 : decode cX10_seeks 35 = .ok (.istore 6, 2) := by decide +kernel
theorem dX10_seeks_37 : decode cX10_seeks 37 = .ok (.iload 6, 2) := by decide +kernel
theorem dX10_seeks_39 : decode cX10_seeks 39 = .ok (.bipush 24, 2) := by decide +kernel
theorem dX10_seeks_41 : decode cX10_seeks 41 = .ok (.if_icmp .ge 66, 3) := by decide +kernel
theorem dX10_seeks_44 : decode cX10_seeks 44 = .ok (.aload_n 0, 1) := by decide +kernel
theorem dX10_seeks_45 : decode cX10_seeks 45 = .ok (.iload_n 1, 1) := by decide +kernel
theorem dX10_seeks_46 : decode cX10_seeks 46 = .ok (.iload 5, 2) := by decide +kernel
theorem dX10_seeks_48 : decode cX10_seeks 48 = .ok (.iload 6, 2) := by decide +kernel
theorem dX10_seeks_50 : decode cX10_seeks 50 = .ok (.invokevirtual 314, 3) := by decide +kernel
theorem dX10_seeks_53 : decode cX10_seeks 53 = .ok (.aload_n 0, 1) := by decide +kernel
theorem dX10_seeks_54 : decode cX10_seeks 54 = .ok (.invokevirtual 375, 3) := by decide +kernel
theorem dX10_seeks_57 : decode cX10_seeks 57 = .ok (.aload_n 0, 1) := by decide +kernel
theorem dX10_seeks_58 : decode cX10_seeks 58 = .ok (.getfield 392, 3) := by decide +kernel
theorem dX10_seeks_61 : decode cX10_seeks 61 = .ok (.iconst (-1), 1) := by decide +kernel
theorem dX10_seeks_62 : decode cX10_seeks 62 = .ok (.if_icmp .eq 18, 3) := by decide +kernel
theorem dX10_seeks_65 : decode cX10_seeks 65 = .ok (.aload_n 0, 1) := by decide +kernel
theorem dX10_seeks_66 : decode cX10_seeks 66 = .ok (.iload_n 2, 1) := by decide +kernel
theorem dX10_seeks_67 : decode cX10_seeks 67 = .ok (.invokevirtual 378, 3) := by decide +kernel
theorem dX10_seeks_70 : decode cX10_seeks 70 = .ok (.aload_n 0, 1) := by decide +kernel
theorem dX10_seeks_71 : decode cX10_seeks 71 = .ok (.getfield 392, 3) := by decide +kernel
theorem dX10_seeks_74 : decode cX10_seeks 74 = .ok (.if_icmp .lt 6, 3) := by decide +kernel
theorem dX10_seeks_77 : decode cX10_seeks 77 = .ok (.goto 24, 3) := by decide +kernel
theorem dX10_seeks_80 : decode cX10_seeks 80 = .ok (.aload_n 0, 1) := by decide +kernel
theorem dX10_seeks_81 : decode cX10_seeks 81 = .ok (.aload_n 0, 1) := by decide +kernel
theorem dX10_seeks_82 : decode cX10_seeks 82 = .ok (.iload_n 2, 1) := by decide +kernel
theorem dX10_seeks_83 : decode cX10_seeks 83 = .ok (.invokevirtual 378, 3) := by decide +kernel
theorem dX10_seeks_86 : decode cX10_seeks 86 = .ok (.putfield 392, 3) := by decide +kernel
theorem dX10_seeks_89 : decode cX10_seeks 89 = .ok (.aload_n 0, 1) := by decide +kernel
theorem dX10_seeks_90 : decode cX10_seeks 90 = .ok (.iload 5, 2) := by decide +kernel
theorem dX10_seeks_92 : decode cX10_seeks 92 = .ok (.putfield 395, 3) := by decide +kernel
theorem dX10_seeks_95 : decode cX10_seeks 95 = .ok (.aload_n 0, 1) := by decide +kernel
theorem dX10_seeks_96 : decode cX10_seeks 96 = .ok (.iload 6, 2) := by decide +kernel
theorem dX10_seeks_98 : decode cX10_seeks 98 = .ok (.putfield 398, 3) := by decide +kernel
theorem dX10_seeks_101 : decode cX10_seeks 101 = .ok (.iinc 6 1, 3) := by decide +kernel
theorem dX10_seeks_104 : decode cX10_seeks 104 = .ok (.goto (-67), 3) := by decide +kernel
theorem dX10_seeks_107 : decode cX10_seeks 107 = .ok (.iinc 5 1, 3) := by decide +kernel
theorem dX10_seeks_110 : decode cX10_seeks 110 = .ok (.goto (-87), 3) := by decide +kernel
theorem dX10_seeks_113 : decode cX10_seeks 113 = .ok (.aload_n 0, 1) := by decide +kernel
theorem dX10_seeks_114 : decode cX10_seeks 114 = .ok (.iload_n 1, 1) := by decide +kernel
theorem dX10_seeks_115 : decode cX10_seeks 115 = .ok (.iload_n 3, 1) := by decide +kernel
theorem dX10_seeks_116 : decode cX10_seeks 116 = .ok (.iload 4, 2) := by decide +kernel
theorem dX10_seeks_118 : decode cX10_seeks 118 = .ok (.invokevirtual 314, 3) := by decide +kernel
theorem dX10_seeks_121 : decode cX10_seeks 121 = .ok (.return_, 1) := by decide +kernel
theorem dX10_best_0 : decode cX10_best 0 = .ok (.aload_n 0, 1) := by decide +kernel
theorem dX10_best_1 : decode cX10_best 1 = .ok (.iconst 0, 1) := by decide +kernel
theorem dX10_best_2 : decode cX10_best 2 = .ok (.putfield 104, 3) := by decide +kernel
theorem dX10_best_5 : decode cX10_best 5 = .ok (.aload_n 0, 1) := by decide +kernel
theorem dX10_best_6 : decode cX10_best 6 = .ok (.iload_n 1, 1) := by decide +kernel
theorem dX10_best_7 : decode cX10_best 7 = .ok (.invokevirtual 288, 3) := by decide +kernel
theorem dX10_best_10 : decode cX10_best 10 = .ok (.ifCond .eq 15, 3) := by decide +kernel
theorem dX10_best_13 : decode cX10_best 13 = .ok (.iload_n 2, 1) := by decide +kernel
theorem dX10_best_14 : decode cX10_best 14 = .ok (.i2l, 1) := by decide +kernel
theorem dX10_best_15 : decode cX10_best 15 = .ok (.lconst 0, 1) := by decide +kernel
theorem dX10_best_16 : decode cX10_best 16 = .ok (.ldc2_w 302, 3) := by decide +kernel
theorem dX10_best_19 : decode cX10_best 19 = .ok (.invokestatic 109, 3) := by decide +kernel
theorem dX10_best_22 : decode cX10_best 22 = .ok (.ifCond .ne 6, 3) := by decide +kernel
theorem dX10_best_25 : decode cX10_best 25 = .ok (.bipush (-2), 2) := by decide +kernel
theorem dX10_best_27 : decode cX10_best 27 = .ok (.ireturn, 1) := by decide +kernel
theorem dX10_best_28 : decode cX10_best 28 = .ok (.aload_n 0, 1) := by decide +kernel
theorem dX10_best_29 : decode cX10_best 29 = .ok (.invokevirtual 372, 3) := by decide +kernel
theorem dX10_best_32 : decode cX10_best 32 = .ok (.aload_n 0, 1) := by decide +kernel
theorem dX10_best_33 : decode cX10_best 33 = .ok (.iload_n 1, 1) := by decide +kernel
theorem dX10_best_34 : decode cX10_best 34 = .ok (.aload_n 0, 1) := by decide +kernel
theorem dX10_best_35 : decode cX10_best 35 = .ok (.iload_n 1, 1) := by decide +kernel
theorem dX10_best_36 : decode cX10_best 36 = .ok (.iconst 0, 1) := by decide +kernel
theorem dX10_best_37 : decode cX10_best 37 = .ok (.invokevirtual 285, 3) := by decide +kernel
theorem dX10_best_40 : decode cX10_best 40 = .ok (.invokevirtual 401, 3) := by decide +kernel
theorem dX10_best_43 : decode cX10_best 43 = .ok (.iload_n 2, 1) := by decide +kernel
theorem dX10_best_44 : decode cX10_best 44 = .ok (.ifCond .ne 10, 3) := by decide +kernel
theorem dX10_best_47 : decode cX10_best 47 = .ok (.aload_n 0, 1) := by decide +kernel
theorem dX10_best_48 : decode cX10_best 48 = .ok (.getfield 392, 3) := by decide +kernel
theorem dX10_best_51 : decode cX10_best 51 = .ok (.goto 19, 3) := by decide +kernel
theorem dX10_best_54 : decode cX10_best 54 = .ok (.iload_n 2, 1) := by decide +kernel
theorem dX10_best_55 : decode cX10_best 55 = .ok (.iconst 1, 1) := by decide +kernel
theorem dX10_best_56 : decode cX10_best 56 = .ok (.if_icmp .ne 10, 3) := by decide +kernel
theorem dX10_best_59 : decode cX10_best 59 = .ok (.aload_n 0, 1) := by decide +kernel
theorem dX10_best_60 : decode cX10_best 60 = .ok (.getfield 395, 3) := by decide +kernel
theorem dX10_best_63 : decode cX10_best 63 = .ok (.goto 7, 3) := by decide +kernel
theorem dX10_best_66 : decode cX10_best 66 = .ok (.aload_n 0, 1) := by decide +kernel
theorem dX10_best_67 : decode cX10_best 67 = .ok (.getfield 398, 3) := by decide +kernel
theorem dX10_best_70 : decode cX10_best 70 = .ok (.ireturn, 1) := by decide +kernel
theorem dX10_adds_0 : decode cX10_adds 0 = .ok (.bipush 8, 2) := by decide +kernel
theorem dX10_adds_2 : decode cX10_adds 2 = .ok (.aload_n 0, 1) := by decide +kernel
theorem dX10_adds_3 : decode cX10_adds 3 = .ok (.getfield 34, 3) := by decide +kernel
theorem dX10_adds_6 : decode cX10_adds 6 = .ok (.iconst 3, 1) := by decide +kernel
theorem dX10_adds_7 : decode cX10_adds 7 = .ok (.iaload, 1) := by decide +kernel
theorem dX10_adds_8 : decode cX10_adds 8 = .ok (.imul, 1) := by decide +kernel
theorem dX10_adds_9 : decode cX10_adds 9 = .ok (.istore 9, 2) := by decide +kernel
theorem dX10_adds_11 : decode cX10_adds 11 = .ok (.aload_n 0, 1) := by decide +kernel
theorem dX10_adds_12 : decode cX10_adds 12 = .ok (.getfield 46, 3) := by decide +kernel
theorem dX10_adds_15 : decode cX10_adds 15 = .ok (.iload 9, 2) := by decide +kernel
theorem dX10_adds_17 : decode cX10_adds 17 = .ok (.iload_n 1, 1) := by decide +kernel
theorem dX10_adds_18 : decode cX10_adds 18 = .ok (.iastore, 1) := by decide +kernel
theorem dX10_adds_19 : decode cX10_adds 19 = .ok (.aload_n 0, 1) := by decide +kernel
theorem dX10_adds_20 : decode cX10_adds 20 = .ok (.getfield 46, 3) := by decide +kernel
theorem dX10_adds_23 : decode cX10_adds 23 = .ok (.iload 9, 2) := by decide +kernel
theorem dX10_adds_25 : decode cX10_adds 25 = .ok (.iconst 1, 1) := by decide +kernel
theorem dX10_adds_26 : decode cX10_adds 26 = .ok (.iadd, 1) := by decide +kernel
theorem dX10_adds_27 : decode cX10_adds 27 = .ok (.iload_n 2, 1) := by decide +kernel
theorem dX10_adds_28 : decode cX10_adds 28 = .ok (.iastore, 1) := by decide +kernel
theorem dX10_adds_29 : decode cX10_adds 29 = .ok (.aload_n 0, 1) := by decide +kernel
theorem dX10_adds_30 : decode cX10_adds 30 = .ok (.getfield 46, 3) := by decide +kernel
theorem dX10_adds_33 : decode cX10_adds 33 = .ok (.iload 9, 2) := by decide +kernel
theorem dX10_adds_35 : decode cX10_adds 35 = .ok (.iconst 2, 1) := by decide +kernel
theorem dX10_adds_36 : decode cX10_adds 36 = .ok (.iadd, 1) := by decide +kernel
theorem dX10_adds_37 : decode cX10_adds 37 = .ok (.iload_n 3, 1) := by decide +kernel
theorem dX10_adds_38 : decode cX10_adds 38 = .ok (.iastore, 1) := by decide +kernel
theorem dX10_adds_39 : decode cX10_adds 39 = .ok (.aload_n 0, 1) := by decide +kernel
theorem dX10_adds_40 : decode cX10_adds 40 = .ok (.getfield 46, 3) := by decide +kernel
theorem dX10_adds_43 : decode cX10_adds 43 = .ok (.iload 9, 2) := by decide +kernel
theorem dX10_adds_45 : decode cX10_adds 45 = .ok (.iconst 3, 1) := by decide +kernel
theorem dX10_adds_46 : decode cX10_adds 46 = .ok (.iadd, 1) := by decide +kernel
theorem dX10_adds_47 : decode cX10_adds 47 = .ok (.iload 4, 2) := by decide +kernel
theorem dX10_adds_49 : decode cX10_adds 49 = .ok (.iastore, 1) := by decide +kernel
theorem dX10_adds_50 : decode cX10_adds 50 = .ok (.aload_n 0, 1) := by decide +kernel
theorem dX10_adds_51 : decode cX10_adds 51 = .ok (.getfield 46, 3) := by decide +kernel
theorem dX10_adds_54 : decode cX10_adds 54 = .ok (.iload 9, 2) := by decide +kernel
theorem dX10_adds_56 : decode cX10_adds 56 = .ok (.iconst 4, 1) := by decide +kernel
theorem dX10_adds_57 : decode cX10_adds 57 = .ok (.iadd, 1) := by decide +kernel
theorem dX10_adds_58 : decode cX10_adds 58 = .ok (.iload 5, 2) := by decide +kernel
theorem dX10_adds_60 : decode cX10_adds 60 = .ok (.iastore, 1) := by decide +kernel
theorem dX10_adds_61 : decode cX10_adds 61 = .ok (.aload_n 0, 1) := by decide +kernel
theorem dX10_adds_62 : decode cX10_adds 62 = .ok (.getfield 46, 3) := by decide +kernel
theorem dX10_adds_65 : decode cX10_adds 65 = .ok (.iload 9, 2) := by decide +kernel
theorem dX10_adds_67 : decode cX10_adds 67 = .ok (.iconst 5, 1) := by decide +kernel
theorem dX10_adds_68 : decode cX10_adds 68 = .ok (.iadd, 1) := by decide +kernel
theorem dX10_adds_69 : decode cX10_adds 69 = .ok (.iload 6, 2) := by decide +kernel
theorem dX10_adds_71 : decode cX10_adds 71 = .ok (.iastore, 1) := by decide +kernel
theorem dX10_adds_72 : decode cX10_adds 72 = .ok (.aload_n 0, 1) := by decide +kernel
theorem dX10_adds_73 : decode cX10_adds 73 = .ok (.getfield 46, 3) := by decide +kernel
theorem dX10_adds_76 : decode cX10_adds 76 = .ok (.iload 9, 2) := by decide +kernel
theorem dX10_adds_78 : decode cX10_adds 78 = .ok (.bipush 6, 2) := by decide +kernel
theorem dX10_adds_80 : decode cX10_adds 80 = .ok (.iadd, 1) := by decide +kernel
theorem dX10_adds_81 : decode cX10_adds 81 = .ok (.iload 7, 2) := by decide +kernel
theorem dX10_adds_83 : decode cX10_adds 83 = .ok (.iastore, 1) := by decide +kernel
theorem dX10_adds_84 : decode cX10_adds 84 = .ok (.aload_n 0, 1) := by decide +kernel
theorem dX10_adds_85 : decode cX10_adds 85 = .ok (.getfield 46, 3) := by decide +kernel
theorem dX10_adds_88 : decode cX10_adds 88 = .ok (.iload 9, 2) := by decide +kernel
theorem dX10_adds_90 : decode cX10_adds 90 = .ok (.bipush 7, 2) := by decide +kernel
theorem dX10_adds_92 : decode cX10_adds 92 = .ok (.iadd, 1) := by decide +kernel
theorem dX10_adds_93 : decode cX10_adds 93 = .ok (.iload 8, 2) := by decide +kernel
theorem dX10_adds_95 : decode cX10_adds 95 = .ok (.iastore, 1) := by decide +kernel
theorem dX10_adds_96 : decode cX10_adds 96 = .ok (.aload_n 0, 1) := by decide +kernel
theorem dX10_adds_97 : decode cX10_adds 97 = .ok (.aload_n 0, 1) := by decide +kernel
theorem dX10_adds_98 : decode cX10_adds 98 = .ok (.getfield 34, 3) := by decide +kernel
theorem dX10_adds_101 : decode cX10_adds 101 = .ok (.iconst 3, 1) := by decide +kernel
theorem dX10_adds_102 : decode cX10_adds 102 = .ok (.iaload, 1) := by decide +kernel
theorem dX10_adds_103 : decode cX10_adds 103 = .ok (.iconst 1, 1) := by decide +kernel
theorem dX10_adds_104 : decode cX10_adds 104 = .ok (.iadd, 1) := by decide +kernel
theorem dX10_adds_105 : decode cX10_adds 105 = .ok (.putfield 321, 3) := by decide +kernel
theorem dX10_adds_108 : decode cX10_adds 108 = .ok (.return_, 1) := by decide +kernel
theorem dX10_split_0 : decode cX10_split 0 = .ok (.aload_n 0, 1) := by decide +kernel
theorem dX10_split_1 : decode cX10_split 1 = .ok (.iconst 0, 1) := by decide +kernel
theorem dX10_split_2 : decode cX10_split 2 = .ok (.putfield 104, 3) := by decide +kernel
theorem dX10_split_5 : decode cX10_split 5 = .ok (.aload_n 0, 1) := by decide +kernel
theorem dX10_split_6 : decode cX10_split 6 = .ok (.iload_n 1, 1) := by decide +kernel
theorem dX10_split_7 : decode cX10_split 7 = .ok (.invokevirtual 288, 3) := by decide +kernel
theorem dX10_split_10 : decode cX10_split 10 = .ok (.ifCond .eq 15, 3) := by decide +kernel
theorem dX10_split_13 : decode cX10_split 13 = .ok (.iload_n 2, 1) := by decide +kernel
theorem dX10_split_14 : decode cX10_split 14 = .ok (.i2l, 1) := by decide +kernel
theorem dX10_split_15 : decode cX10_split 15 = .ok (.lconst 0, 1) := by decide +kernel
theorem dX10_split_16 : decode cX10_split 16 = .ok (.ldc2_w 107, 3) := by decide +kernel
theorem dX10_split_19 : decode cX10_split 19 = .ok (.invokestatic 109, 3) := by decide +kernel
theorem dX10_split_22 : decode cX10_split 22 = .ok (.ifCond .ne 6, 3) := by decide +kernel
theorem dX10_split_25 : decode cX10_split 25 = .ok (.bipush (-2), 2) := by decide +kernel
theorem dX10_split_27 : decode cX10_split 27 = .ok (.ireturn, 1) := by decide +kernel
theorem dX10_split_28 : decode cX10_split 28 = .ok (.aload_n 0, 1) := by decide +kernel
theorem dX10_split_29 : decode cX10_split 29 = .ok (.iload_n 1, 1) := by decide +kernel
theorem dX10_split_30 : decode cX10_split 30 = .ok (.iconst 4, 1) := by decide +kernel
theorem dX10_split_31 : decode cX10_split 31 = .ok (.invokevirtual 285, 3) := by decide +kernel
theorem dX10_split_34 : decode cX10_split 34 = .ok (.istore_n 3, 1) := by decide +kernel
theorem dX10_split_35 : decode cX10_split 35 = .ok (.aload_n 0, 1) := by decide +kernel
theorem dX10_split_36 : decode cX10_split 36 = .ok (.iload_n 1, 1) := by decide +kernel
theorem dX10_split_37 : decode cX10_split 37 = .ok (.iconst 5, 1) := by decide +kernel
theorem dX10_split_38 : decode cX10_split 38 = .ok (.invokevirtual 285, 3) := by decide +kernel
theorem dX10_split_41 : decode cX10_split 41 = .ok (.istore 4, 2) := by decide +kernel
theorem dX10_split_43 : decode cX10_split 43 = .ok (.iload_n 3, 1) := by decide +kernel
theorem dX10_split_44 : decode cX10_split 44 = .ok (.iconst 1, 1) := by decide +kernel
theorem dX10_split_45 : decode cX10_split 45 = .ok (.if_icmp .ne 5, 3) := by decide +kernel
theorem dX10_split_48 : decode cX10_split 48 = .ok (.iconst (-1), 1) := by decide +kernel
theorem dX10_split_49 : decode cX10_split 49 = .ok (.ireturn, 1) := by decide +kernel
theorem dX10_split_50 : decode cX10_split 50 = .ok (.aload_n 0, 1) := by decide +kernel
theorem dX10_split_51 : decode cX10_split 51 = .ok (.invokevirtual 372, 3) := by decide +kernel
theorem dX10_split_54 : decode cX10_split 54 = .ok (.iconst (-1), 1) := by decide +kernel
theorem dX10_split_55 : decode cX10_split 55 = .ok (.istore 5, 2) := by decide +kernel
theorem dX10_split_57 : decode cX10_split 57 = .ok (.iconst (-1), 1) := by decide +kernel
theorem dX10_split_58 : decode cX10_split 58 = .ok (.istore 6, 2) := by decide +kernel
theorem dX10_split_60 : decode cX10_split 60 = .ok (.iconst (-1), 1) := by decide +kernel
theorem dX10_split_61 : decode cX10_split 61 = .ok (.istore 7, 2) := by decide +kernel
theorem dX10_split_63 : decode cX10_split 63 = .ok (.iconst (-1), 1) := by decide +kernel
theorem dX10_split_64 : decode cX10_split 64 = .ok (.istore 8, 2) := by decide +kernel
theorem dX10_split_66 : decode cX10_split 66 = .ok (.iconst 1, 1) := by decide +kernel
theorem dX10_split_67 : decode cX10_split 67 = .ok (.istore 9, 2) := by decide +kernel
theorem dX10_split_69 : decode cX10_split 69 = .ok (.iload 9, 2) := by decide +kernel
theorem dX10_split_71 : decode cX10_split 71 = .ok (.iload_n 3, 1) := by decide +kernel
theorem dX10_split_72 : decode cX10_split 72 = .ok (.if_icmp .ge 128, 3) := by decide +kernel
theorem dX10_split_75 : decode cX10_split 75 = .ok (.aload_n 0, 1) := by decide +kernel
theorem dX10_split_76 : decode cX10_split 76 = .ok (.aload_n 0, 1) := by decide +kernel
theorem dX10_split_77 : decode cX10_split 77 = .ok (.iload_n 1, 1) := by decide +kernel
theorem dX10_split_78 : decode cX10_split 78 = .ok (.iconst 0, 1) := by decide +kernel
theorem dX10_split_79 : decode cX10_split 79 = .ok (.invokevirtual 285, 3) := by decide +kernel
theorem dX10_split_82 : decode cX10_split 82 = .ok (.iconst 0, 1) := by decide +kernel
theorem dX10_split_83 : decode cX10_split 83 = .ok (.aload_n 0, 1) := by decide +kernel
theorem dX10_split_84 : decode cX10_split 84 = .ok (.iload_n 1, 1) := by decide +kernel
theorem dX10_split_85 : decode cX10_split 85 = .ok (.iconst 2, 1) := by decide +kernel
theorem dX10_split_86 : decode cX10_split 86 = .ok (.invokevirtual 285, 3) := by decide +kernel
theorem dX10_split_89 : decode cX10_split 89 = .ok (.iconst 0, 1) := by decide +kernel
theorem dX10_split_90 : decode cX10_split 90 = .ok (.iload_n 3, 1) := by decide +kernel
theorem dX10_split_91 : decode cX10_split 91 = .ok (.iload 9, 2) := by decide +kernel
theorem dX10_split_93 : decode cX10_split 93 = .ok (.isub, 1) := by decide +kernel
theorem dX10_split_94 : decode cX10_split 94 = .ok (.iload 4, 2) := by decide +kernel
theorem dX10_split_96 : decode cX10_split 96 = .ok (.aload_n 0, 1) := by decide +kernel
theorem dX10_split_97 : decode cX10_split 97 = .ok (.iload_n 1, 1) := by decide +kernel
theorem dX10_split_98 : decode cX10_split 98 = .ok (.bipush 6, 2) := by decide +kernel
theorem dX10_split_100 : decode cX10_split 100 = .ok (.invokevirtual 285, 3) := by decide +kernel
theorem dX10_split_103 : decode cX10_split 103 = .ok (.aload_n 0, 1) := by decide +kernel
theorem dX10_split_104 : decode cX10_split 104 = .ok (.iload_n 1, 1) := by decide +kernel
theorem dX10_split_105 : decode cX10_split 105 = .ok (.bipush 7, 2) := by decide +kernel
theorem dX10_split_107 : decode cX10_split 107 = .ok (.invokevirtual 285, 3) := by decide +kernel
theorem dX10_split_110 : decode cX10_split 110 = .ok (.invokevirtual 404, 3) := by decide +kernel
theorem dX10_split_113 : decode cX10_split 113 = .ok (.aload_n 0, 1) := by decide +kernel
theorem dX10_split_114 : decode cX10_split 114 = .ok (.getfield 46, 3) := by decide +kernel
theorem dX10_split_117 : decode cX10_split 117 = .ok (.bipush 8, 2) := by decide +kernel
theorem dX10_split_119 : decode cX10_split 119 = .ok (.iload_n 1, 1) := by decide +kernel
theorem dX10_split_120 : decode cX10_split 120 = .ok (.imul, 1) := by decide +kernel
theorem dX10_split_121 : decode cX10_split 121 = .ok (.iconst 4, 1) := by decide +kernel
theorem dX10_split_122 : decode cX10_split 122 = .ok (.iadd, 1) := by decide +kernel
theorem dX10_split_123 : decode cX10_split 123 = .ok (.iload 9, 2) := by decide +kernel
theorem dX10_split_125 : decode cX10_split 125 = .ok (.iastore, 1) := by decide +kernel
theorem dX10_split_126 : decode cX10_split 126 = .ok (.aload_n 0, 1) := by decide +kernel
theorem dX10_split_127 : decode cX10_split 127 = .ok (.getfield 46, 3) := by decide +kernel
theorem dX10_split_130 : decode cX10_split 130 = .ok (.bipush 8, 2) := by decide +kernel
theorem dX10_split_132 : decode cX10_split 132 = .ok (.iload_n 1, 1) := by decide +kernel
theorem dX10_split_133 : decode cX10_split 133 = .ok (.imul, 1) := by decide +kernel
theorem dX10_split_134 : decode cX10_split 134 = .ok (.iconst 5, 1) := by decide +kernel
theorem dX10_split_135 : decode cX10_split 135 = .ok (.iadd, 1) := by decide +kernel
theorem dX10_split_136 : decode cX10_split 136 = .ok (.iconst 0, 1) := by decide +kernel
theorem dX10_split_137 : decode cX10_split 137 = .ok (.iastore, 1) := by decide +kernel
theorem dX10_split_138 : decode cX10_split 138 = .ok (.aload_n 0, 1) := by decide +kernel
theorem dX10_split_139 : decode cX10_split 139 = .ok (.aload_n 0, 1) := by decide +kernel
theorem dX10_split_140 : decode cX10_split 140 = .ok (.getfield 34, 3) := by decide +kernel
theorem dX10_split_143 : decode cX10_split 143 = .ok (.iconst 3, 1) := by decide +kernel
theorem dX10_split_144 : decode cX10_split 144 = .ok (.iaload, 1) := by decide +kernel
theorem dX10_split_145 : decode cX10_split 145 = .ok (.aload_n 0, 1) := by decide +kernel
theorem dX10_split_146 : decode cX10_split 146 = .ok (.iload_n 1, 1) := by decide +kernel
theorem dX10_split_147 : decode cX10_split 147 = .ok (.iconst 0, 1) := by decide +kernel
theorem dX10_split_148 : decode cX10_split 148 = .ok (.invokevirtual 285, 3) := by decide +kernel
theorem dX10_split_151 : decode cX10_split 151 = .ok (.invokevirtual 401, 3) := by decide +kernel
theorem dX10_split_154 : decode cX10_split 154 = .ok (.iload 5, 2) := by decide +kernel
theorem dX10_split_156 : decode cX10_split 156 = .ok (.iconst (-1), 1) := by decide +kernel
theorem dX10_split_157 : decode cX10_split 157 = .ok (.if_icmp .eq 15, 3) := by decide +kernel
theorem dX10_split_160 : decode cX10_split 160 = .ok (.aload_n 0, 1) := by decide +kernel
theorem dX10_split_161 : decode cX10_split 161 = .ok (.getfield 392, 3) := by decide +kernel
theorem dX10_split_164 : decode cX10_split 164 = .ok (.iload 5, 2) := by decide +kernel
theorem dX10_split_166 : decode cX10_split 166 = .ok (.if_icmp .lt 6, 3) := by decide +kernel
theorem dX10_split_169 : decode cX10_split 169 = .ok (.goto 25, 3) := by decide +kernel
theorem dX10_split_172 : decode cX10_split 172 = .ok (.aload_n 0, 1) := by decide +kernel
theorem dX10_split_173 : decode cX10_split 173 = .ok (.getfield 392, 3) := by decide +kernel
theorem dX10_split_176 : decode cX10_split 176 = .ok (.istore 5, 2) := by decide +kernel
theorem dX10_split_178 : decode cX10_split 178 = .ok (.iload 9, 2) := by decide +kernel
theorem dX10_split_180 : decode cX10_split 180 = .ok (.istore 6, 2) := by decide +kernel
theorem dX10_split_182 : decode cX10_split 182 = .ok (.aload_n 0, 1) := by decide +kernel
theorem dX10_split_183 : decode cX10_split 183 = .ok (.getfield 395, 3) := by decide +kernel
theorem dX10_split_186 : decode cX10_split 186 = .ok (.istore 7, 2) := by decide +kernel
theorem dX10_split_188 : decode cX10_split 188 = .ok (.aload_n 0, 1) := by decide +kernel
theorem dX10_split_189 : decode cX10_split 189 = .ok (.getfield 398, 3) := by decide +kernel
theorem dX10_split_192 : decode cX10_split 192 = .ok (.istore 8, 2) := by decide +kernel
theorem dX10_split_194 : decode cX10_split 194 = .ok (.iinc 9 1, 3) := by decide +kernel
theorem dX10_split_197 : decode cX10_split 197 = .ok (.goto (-128), 3) := by decide +kernel
theorem dX10_split_200 : decode cX10_split 200 = .ok (.aload_n 0, 1) := by decide +kernel
theorem dX10_split_201 : decode cX10_split 201 = .ok (.getfield 46, 3) := by decide +kernel
theorem dX10_split_204 : decode cX10_split 204 = .ok (.bipush 8, 2) := by decide +kernel
theorem dX10_split_206 : decode cX10_split 206 = .ok (.iload_n 1, 1) := by decide +kernel
theorem dX10_split_207 : decode cX10_split 207 = .ok (.imul, 1) := by decide +kernel
theorem dX10_split_208 : decode cX10_split 208 = .ok (.iconst 4, 1) := by decide +kernel
theorem dX10_split_209 : decode cX10_split 209 = .ok (.iadd, 1) := by decide +kernel
theorem dX10_split_210 : decode cX10_split 210 = .ok (.iload_n 3, 1) := by decide +kernel
theorem dX10_split_211 : decode cX10_split 211 = .ok (.iastore, 1) := by decide +kernel
theorem dX10_split_212 : decode cX10_split 212 = .ok (.aload_n 0, 1) := by decide +kernel
theorem dX10_split_213 : decode cX10_split 213 = .ok (.getfield 46, 3) := by decide +kernel
theorem dX10_split_216 : decode cX10_split 216 = .ok (.bipush 8, 2) := by decide +kernel
theorem dX10_split_218 : decode cX10_split 218 = .ok (.iload_n 1, 1) := by decide +kernel
theorem dX10_split_219 : decode cX10_split 219 = .ok (.imul, 1) := by decide +kernel
theorem dX10_split_220 : decode cX10_split 220 = .ok (.iconst 5, 1) := by decide +kernel
theorem dX10_split_221 : decode cX10_split 221 = .ok (.iadd, 1) := by decide +kernel
theorem dX10_split_222 : decode cX10_split 222 = .ok (.iload 4, 2) := by decide +kernel
theorem dX10_split_224 : decode cX10_split 224 = .ok (.iastore, 1) := by decide +kernel
theorem dX10_split_225 : decode cX10_split 225 = .ok (.iload_n 2, 1) := by decide +kernel
theorem dX10_split_226 : decode cX10_split 226 = .ok (.ifCond .ne 8, 3) := by decide +kernel
theorem dX10_split_229 : decode cX10_split 229 = .ok (.iload 5, 2) := by decide +kernel
theorem dX10_split_231 : decode cX10_split 231 = .ok (.goto 25, 3) := by decide +kernel
theorem dX10_split_234 : decode cX10_split 234 = .ok (.iload_n 2, 1) := by decide +kernel
theorem dX10_split_235 : decode cX10_split 235 = .ok (.iconst 1, 1) := by decide +kernel
theorem dX10_split_236 : decode cX10_split 236 = .ok (.if_icmp .ne 8, 3) := by decide +kernel
theorem dX10_split_239 : decode cX10_split 239 = .ok (.iload 6, 2) := by decide +kernel
theorem dX10_split_241 : decode cX10_split 241 = .ok (.goto 15, 3) := by decide +kernel
theorem dX10_split_244 : decode cX10_split 244 = .ok (.iload_n 2, 1) := by decide +kernel
theorem dX10_split_245 : decode cX10_split 245 = .ok (.iconst 2, 1) := by decide +kernel
theorem dX10_split_246 : decode cX10_split 246 = .ok (.if_icmp .ne 8, 3) := by decide +kernel
theorem dX10_split_249 : decode cX10_split 249 = .ok (.iload 7, 2) := by decide +kernel
theorem dX10_split_251 : decode cX10_split 251 = .ok (.goto 5, 3) := by decide +kernel
theorem dX10_split_254 : decode cX10_split 254 = .ok (.iload 8, 2) := by decide +kernel
theorem dX10_split_256 : decode cX10_split 256 = .ok (.ireturn, 1) := by decide +kernel
theorem dX10_restless_0 : decode cX10_restless 0 = .ok (.aload_n 0, 1) := by decide +kernel
theorem dX10_restless_1 : decode cX10_restless 1 = .ok (.invokevirtual 372, 3) := by decide +kernel
theorem dX10_restless_4 : decode cX10_restless 4 = .ok (.aload_n 0, 1) := by decide +kernel
theorem dX10_restless_5 : decode cX10_restless 5 = .ok (.invokevirtual 375, 3) := by decide +kernel
theorem dX10_restless_8 : decode cX10_restless 8 = .ok (.iconst 0, 1) := by decide +kernel
theorem dX10_restless_9 : decode cX10_restless 9 = .ok (.istore_n 1, 1) := by decide +kernel
theorem dX10_restless_10 : decode cX10_restless 10 = .ok (.iload_n 1, 1) := by decide +kernel
theorem dX10_restless_11 : decode cX10_restless 11 = .ok (.iconst 5, 1) := by decide +kernel
theorem dX10_restless_12 : decode cX10_restless 12 = .ok (.if_icmp .ge 20, 3) := by decide +kernel
theorem dX10_restless_15 : decode cX10_restless 15 = .ok (.aload_n 0, 1) := by decide +kernel
theorem dX10_restless_16 : decode cX10_restless 16 = .ok (.getfield 80, 3) := by decide +kernel
theorem dX10_restless_19 : decode cX10_restless 19 = .ok (.iload_n 1, 1) := by decide +kernel
theorem dX10_restless_20 : decode cX10_restless 20 = .ok (.aload_n 0, 1) := by decide +kernel
theorem dX10_restless_21 : decode cX10_restless 21 = .ok (.iload_n 1, 1) := by decide +kernel
theorem dX10_restless_22 : decode cX10_restless 22 = .ok (.invokevirtual 378, 3) := by decide +kernel
theorem dX10_restless_25 : decode cX10_restless 25 = .ok (.iastore, 1) := by decide +kernel
theorem dX10_restless_26 : decode cX10_restless 26 = .ok (.iinc 1 1, 3) := by decide +kernel
theorem dX10_restless_29 : decode cX10_restless 29 = .ok (.goto (-19), 3) := by decide +kernel
theorem dX10_restless_32 : decode cX10_restless 32 = .ok (.iconst 0, 1) := by decide +kernel
theorem dX10_restless_33 : decode cX10_restless 33 = .ok (.istore_n 1, 1) := by decide +kernel
theorem dX10_restless_34 : decode cX10_restless 34 = .ok (.iload_n 1, 1) := by decide +kernel
theorem dX10_restless_35 : decode cX10_restless 35 = .ok (.aload_n 0, 1) := by decide +kernel
theorem dX10_restless_36 : decode cX10_restless 36 = .ok (.getfield 34, 3) := by decide +kernel
theorem dX10_restless_39 : decode cX10_restless 39 = .ok (.iconst 3, 1) := by decide +kernel
theorem dX10_restless_40 : decode cX10_restless 40 = .ok (.iaload, 1) := by decide +kernel
theorem dX10_restless_41 : decode cX10_restless 41 = .ok (.if_icmp .ge 40, 3) := by decide +kernel
theorem dX10_restless_44 : decode cX10_restless 44 = .ok (.aload_n 0, 1) := by decide +kernel
theorem dX10_restless_45 : decode cX10_restless 45 = .ok (.iload_n 1, 1) := by decide +kernel
theorem dX10_restless_46 : decode cX10_restless 46 = .ok (.aload_n 0, 1) := by decide +kernel
theorem dX10_restless_47 : decode cX10_restless 47 = .ok (.iload_n 1, 1) := by decide +kernel
theorem dX10_restless_48 : decode cX10_restless 48 = .ok (.iconst 0, 1) := by decide +kernel
theorem dX10_restless_49 : decode cX10_restless 49 = .ok (.invokevirtual 285, 3) := by decide +kernel
theorem dX10_restless_52 : decode cX10_restless 52 = .ok (.invokevirtual 401, 3) := by decide +kernel
theorem dX10_restless_55 : decode cX10_restless 55 = .ok (.aload_n 0, 1) := by decide +kernel
theorem dX10_restless_56 : decode cX10_restless 56 = .ok (.getfield 392, 3) := by decide +kernel
theorem dX10_restless_59 : decode cX10_restless 59 = .ok (.aload_n 0, 1) := by decide +kernel
theorem dX10_restless_60 : decode cX10_restless 60 = .ok (.getfield 80, 3) := by decide +kernel
theorem dX10_restless_63 : decode cX10_restless 63 = .ok (.aload_n 0, 1) := by decide +kernel
theorem dX10_restless_64 : decode cX10_restless 64 = .ok (.iload_n 1, 1) := by decide +kernel
theorem dX10_restless_65 : decode cX10_restless 65 = .ok (.iconst 0, 1) := by decide +kernel
theorem dX10_restless_66 : decode cX10_restless 66 = .ok (.invokevirtual 285, 3) := by decide +kernel
theorem dX10_restless_69 : decode cX10_restless 69 = .ok (.iaload, 1) := by decide +kernel
theorem dX10_restless_70 : decode cX10_restless 70 = .ok (.if_icmp .ge 5, 3) := by decide +kernel
theorem dX10_restless_73 : decode cX10_restless 73 = .ok (.iload_n 1, 1) := by decide +kernel
theorem dX10_restless_74 : decode cX10_restless 74 = .ok (.ireturn, 1) := by decide +kernel
theorem dX10_restless_75 : decode cX10_restless 75 = .ok (.iinc 1 1, 3) := by decide +kernel
theorem dX10_restless_78 : decode cX10_restless 78 = .ok (.goto (-44), 3) := by decide +kernel
theorem dX10_restless_81 : decode cX10_restless 81 = .ok (.iconst (-1), 1) := by decide +kernel
theorem dX10_restless_82 : decode cX10_restless 82 = .ok (.ireturn, 1) := by decide +kernel
